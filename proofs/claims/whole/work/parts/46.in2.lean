section
/-! tries -/
def dAs (μ μ2 : pxS) : Prop := dGs μ μ2 ∧ ∀ x, x < 308 → μ2 (1, 29, 0) x = μ (1, 28, 0) x
def dGx (a x : Int32) : Int32 := if a < x then x else a
def dMx (g : Nat → Int32) (a : Int32) : Nat → Int32
  | 0 => a
  | t + 1 => dGx (dMx g a t) (g (t + 1))
theorem dgreater {σ : pxS} {a x : Int32} : F_Mo_greater σ a x = some (dGx a x) := by
  unfold F_Mo_greater dGx
  by_cases c : a < x
  · rw [if_pos c, if_pos (Int32.le_of_lt c)]
  · rw [if_neg c]
    by_cases c2 : a ≤ x
    · rw [if_pos c2]
      have : a = x := Int32.le_antisymm c2 (Int32.not_lt.mp c)
      rw [this]
    · rw [if_neg c2]
section F9
variable {σ σ' μ μ' μ1 μ2 : pxS} {P : dP} {k p f : Nat} {B B' : dB} {I : Option dB} {H : List dB}
theorem dAs_3 (h : dAs μ μ1) (g : dG3 μ1 μ2) : dAs μ μ2 := ⟨dGs_trans h.1 (dGs_3 g), fun x hx => by rw [g _ (by simp) (by simp) (by simp)]; exact h.2 x hx⟩
theorem dU_aside (h : dM μ P B) (hn : P.1 ≤ 12) : dw (F_Mo_copies_28_29 μ 0 0) (fun μ1 => dM μ1 P B ∧ dAs μ μ1 ∧ (μ1 (1, 28, 0) = μ (1, 28, 0)) ∧ ∀ q, μ1 (0, 0, 0) q = μ (0, 0, 0) q) :=
  dw_mono dcp_28_29 fun μ1 ⟨m1, m2⟩ => ⟨⟨by rw [m2 _ (by simp)]; exact h.s, dMP_e (fun a ha => m2 _ (by simp; omega)) h.P⟩, ⟨⟨fun a _ h29 _ _ _ _ _ => m2 _ (by simp [h29]), fun q _ _ _ => by rw [m2 _ (by simp)]⟩, fun x hx => by rw [m1, if_pos (by omega)]; congr 1; omega⟩, m2 _ (by simp), fun q => by rw [m2 _ (by simp)]⟩
theorem dU_back (h : dAs μ μ2) : dw (F_Mo_copies_29_28 μ2 0 0) (fun μ3 => dGs μ μ3 ∧ (∀ x, x < 308 → μ3 (1, 28, 0) x = μ (1, 28, 0) x) ∧ (∀ x, x < 308 → μ3 (1, 29, 0) x = μ (1, 28, 0) x)) :=
  dw_mono dcp_29_28 fun μ3 ⟨m1, m2⟩ => ⟨dGs_trans h.1 ⟨fun a h28 _ _ _ _ _ _ => m2 _ (by simp [h28]), fun q _ _ _ => by rw [m2 _ (by simp)]⟩, fun x hx => by
    rw [m1, if_pos (by omega), show 0 + (x - 0) = x by omega]
    exact h.2 x hx, fun x hx => by rw [m2 _ (by simp)]; exact h.2 x hx⟩
theorem px_gi {α : Type} {i N : Nat} {A : Option α} (hi : i < N) (hN : N < 2147483648) : px_gd (dn i) N A = A := by
  unfold px_gd
  rw [if_pos ⟨dn_nn (by omega), by rw [dn_nat (by omega)]; exact hi⟩]
/-- n passes of the class' board k -/
theorem dT_loop {S E : Type} {T n : Nat} {f : S → Option (S ⊕ E)} (st : Nat → pxS → S) (ex : pxS → E) (h : dC σ k p P B) (W : dWA P) (hp : p < 2) (ok : dOK P T B) (hT : T + n ≤ 10900) (hs : ∀ t τ, t < n → dC τ k p P (dPn P t B) → ∃ u, f (st t τ) = px_b1 (F_Bo_pass τ k) u ∧ ∀ τ1, dC τ1 k p P (dPn P (t + 1) B) → u τ1 = some (.inl (st (t + 1) τ1))) (hx : ∀ τ, dC τ k p P (dPn P n B) → f (st n τ) = some (.inr (ex τ))) : dw (px_it f px_N (st 0 σ)) (fun e => ∃ τ, e = ex τ ∧ dC τ k p P (dPn P n B) ∧ dF k σ τ) := by
  refine dw_up n (by unfold px_N; omega) (fun t s => ∃ τ, s = st t τ ∧ dC τ k p P (dPn P t B) ∧ dF k σ τ) (fun t s ht hI => ?_) (fun s hI => ?_) (Nat.zero_le _) ⟨σ, rfl, h, dF_refl k σ⟩
  · obtain ⟨τ, rfl, h1, h2⟩ := hI
    obtain ⟨u, e1, e2⟩ := hs t τ ht h1
    rw [e1]
    refine dw_T (dT_p h1 W hp (dPn_ok W ok t (by omega)).1 (by omega)) fun τ1 g1 f1 => ?_
    rw [e2 τ1 g1]
    simp only [dw_some, dR_l]
    exact ⟨τ1, rfl, g1, dF_trans h2 f1⟩
  · obtain ⟨τ, rfl, h1, h2⟩ := hI
    rw [hx τ h1]
    simp only [dw_some, dR_r]
    exact ⟨τ, rfl, h1, h2⟩
/-- n ticks of the reference -/
theorem dU_loop {S E : Type} {T n : Nat} {f : S → Option (S ⊕ E)} (st : Nat → pxS → S) (ex : pxS → E) (h : dM μ P B) (W : dWA P) (ok : dOK P T B) (hT : T + n ≤ 10900) (hs : ∀ t τ, t < n → dM τ P (dPn P t B) → ∃ u, f (st t τ) = px_b1 (F_Mo_tickGoes τ) u ∧ ∀ τ1, dM τ1 P (dPn P (t + 1) B) → u τ1 = some (.inl (st (t + 1) τ1))) (hx : ∀ τ, dM τ P (dPn P n B) → f (st n τ) = some (.inr (ex τ))) : dw (px_it f px_N (st 0 μ)) (fun e => ∃ τ, e = ex τ ∧ dM τ P (dPn P n B) ∧ dG3 μ τ) := by
  refine dw_up n (by unfold px_N; omega) (fun t s => ∃ τ, s = st t τ ∧ dM τ P (dPn P t B) ∧ dG3 μ τ) (fun t s ht hI => ?_) (fun s hI => ?_) (Nat.zero_le _) ⟨μ, rfl, h, dG3_refl μ⟩
  · obtain ⟨τ, rfl, h1, h2⟩ := hI
    obtain ⟨u, e1, e2⟩ := hs t τ ht h1
    rw [e1, dw_b1]
    refine dw_mono (dU_p h1 W (dPn_ok W ok t (by omega)).1 (by omega)) fun τ1 ⟨g1, f1⟩ => ?_
    rw [e2 τ1 g1]
    simp only [dw_some, dR_l]
    exact ⟨τ1, rfl, g1, dG3_trans h2 f1⟩
  · obtain ⟨τ, rfl, h1, h2⟩ := hI
    rw [hx τ h1]
    simp only [dw_some, dR_r]
    exact ⟨τ, rfl, h1, h2⟩
/-- a try's end -/
theorem dSt_try {a b : Int32} {μ3 : pxS} (h : dI σ μ P p B I H f) (e : a = b) (hF : dF 2 σ σ') (hG : dGs μ μ3) (hr : ∀ x, x < 308 → μ3 (1, 28, 0) x = μ (1, 28, 0) x) : (a, σ').1 = (b, μ3).1 ∧ dInv (a, σ').2 (b, μ3).2 := ⟨e, P, p, B, I, H, f, dI_try h hF hG hr⟩
theorem dn_ge1 {v : Int32} (c0 : ¬ v < 1) : ∃ n, n < 2147483648 ∧ 1 ≤ n ∧ v = dn n := by
  rcases dn_cases v with c | ⟨n, hn, rfl⟩
  · refine absurd ?_ c0
    rw [Int32.lt_iff_toInt_lt] at c ⊢
    simp at c ⊢
    omega
  · refine ⟨n, hn, ?_, rfl⟩
    rw [show (1 : Int32) = dn 1 from rfl, dn_lt hn (by omega)] at c0
    omega
theorem dS_peak (h : dI σ μ P p B I H f) (v : Int32) : dSt (F_PR_peak σ v) (F_Mo_peak μ v) := by
  unfold F_PR_peak F_Mo_peak PR_peak_n11 F_Mo_isFar Mo_isFar_n15
  have h := dI_th (v := 0) h
  rw [px_l]
  generalize px_up μ (0, 0, 0) 0 0 = μ at h
  have hn := h.W.wp.n
  rcases dn_cases v with c | ⟨n, hn2, rfl⟩
  · rw [if_pos c, if_pos c]; exact dSt_2 rfl h
  rw [if_neg (dn_nn hn2), if_neg (dn_nn hn2)]
  by_cases c : n ≤ 300
  · have hc : dn n ≤ 300 := by rw [show (300 : Int32) = dn 300 from rfl, dn_le (by omega) (by omega)]; exact c
    have hc2 : ¬ 300 < dn n := by rw [show (300 : Int32) = dn 300 from rfl, dn_lt (by omega) (by omega)]; omega
    rw [if_pos hc, if_neg hc2, px_b1_s, if_neg (show ¬ (1 : Int32) = 0 by decide), dSt]
    refine dw_T (dT_cp h.C (show 2 ≠ 1 by omega) h.pp h.W.wp h.ok.1.b h.ok.2.1) fun σ1 k1 f1 => ?_
    rw [k1.total, dw_b1]
    refine dw_mono (dT_loop (n := n) (fun t τ => (dMx (fun t => (dPn P t B).2.2.2.2.1) B.2.2.2.2.1 t, dn t, τ)) (fun τ => (dMx (fun t => (dPn P t B).2.2.2.2.1) B.2.2.2.2.1 n, τ)) k1 h.W h.pp h.ok (by omega) (fun t τ ht hτ => ⟨_, by
      show PR_peak_n34 τ (dn n) _ (dn t) = _
      unfold PR_peak_n34
      rw [if_neg (by rw [dn_le (by omega) (by omega)]; omega)], fun τ1 g1 => by
      show some _ = some _
      rw [g1.total, dn_suc]; rfl⟩) (fun τ hτ => by
      show PR_peak_n34 τ (dn n) _ (dn n) = _
      unfold PR_peak_n34
      rw [if_pos (by rw [dn_le (by omega) (by omega)]; omega)])) fun e ⟨τ, he, k2, f2⟩ => ?_
    subst he
    rw [dw_some, dw_b1]
    refine dw_mono (dU_aside h.M hn) fun μ1 ⟨m1, a1, _⟩ => ?_
    rw [m1.s.total, dw_b1]
    refine dw_mono (dU_loop (n := n) (fun t τ => (dMx (fun t => (dPn P t B).2.2.2.2.1) B.2.2.2.2.1 t, dn t, τ)) (fun τ => (dMx (fun t => (dPn P t B).2.2.2.2.1) B.2.2.2.2.1 n, τ)) m1 h.W h.ok (by omega) (fun t τ ht hτ => ⟨_, by
      show Mo_peak_n38 τ (dn n) _ (dn t) = _
      unfold Mo_peak_n38
      rw [if_neg (by rw [dn_le (by omega) (by omega)]; omega)], fun τ1 g1 => by
      dsimp only
      rw [dgreater, px_b1_s, g1.s.total, dn_suc]; rfl⟩) (fun τ hτ => by
      show Mo_peak_n38 τ (dn n) _ (dn n) = _
      unfold Mo_peak_n38
      rw [if_pos (by rw [dn_le (by omega) (by omega)]; omega)])) fun e ⟨τ', he, m2, g2⟩ => ?_
    subst he
    rw [dw_b1]
    refine dw_mono (dU_back (dAs_3 a1 g2)) fun μ3 ⟨b1, b2, _⟩ => dw_some.mpr ?_
    exact dSt_try h rfl (dF_trans f1 f2) b1 b2
  · have hc : ¬ dn n ≤ 300 := by rw [show (300 : Int32) = dn 300 from rfl, dn_le (by omega) (by omega)]; exact c
    have hc2 : 300 < dn n := by rw [show (300 : Int32) = dn 300 from rfl, dn_lt (by omega) (by omega)]; omega
    rw [if_neg hc, if_pos hc2, px_b1_s, if_pos rfl]; exact dSt_2 rfl h
theorem dS_ahead (h : dI σ μ P p B I H f) (v w u : Int32) : dSt (F_PR_ahead σ v w u) (F_Mo_ahead μ v w u) := by
  unfold F_PR_ahead F_Mo_ahead PR_ahead_n28 Mo_ahead_n29 F_Mo_isFar Mo_isFar_n15
  have h := dI_th (v := 0) h
  rw [px_l]
  generalize px_up μ (0, 0, 0) 0 0 = μ at h
  have hn := h.W.wp.n
  rcases dIr h v with ⟨i, hi, rfl, e1, e2⟩ | ⟨_, e1, e2⟩
  · rw [e1, e2, px_b1_s, px_b1_s, if_neg (show ¬ (1 : Int32) = 0 by decide), if_neg (show ¬ (1 : Int32) = 0 by decide)]
    rcases dn_cases w with c | ⟨n, hn2, rfl⟩
    · rw [if_pos c, if_pos c, px_b1_s, if_pos rfl]; exact dSt_2 rfl h
    rw [if_neg (dn_nn hn2), if_neg (dn_nn hn2)]
    by_cases c : 300 < dn n
    · rw [if_pos c, if_pos c, px_b1_s, if_pos rfl]; exact dSt_2 rfl h
    have hn3 : n ≤ 300 := by
      rw [show (300 : Int32) = dn 300 from rfl, dn_lt (by omega) (by omega)] at c
      omega
    rw [if_neg c, if_neg c, px_b1_s, if_neg (show ¬ (1 : Int32) = 0 by decide)]
    by_cases c3 : u < 0
    · rw [if_pos c3, if_pos c3]; exact dSt_2 rfl h
    rw [if_neg c3, if_neg c3]
    by_cases c4 : u ≤ 3
    · rw [if_pos c4, if_pos c4, dSt]
      rw [show 13 * dn i + 0 = dn (13 * i + 0) from ix i 0, show 13 * dn i + 1 = dn (13 * i + 1) from ix i 1, show 13 * dn i + 2 = dn (13 * i + 2) from ix i 2, show 13 * dn i + 5 = dn (13 * i + 5) from ix i 5]
      refine dw_T (dT_cp h.C (show 2 ≠ 1 by omega) h.pp h.W.wp h.ok.1.b h.ok.2.1) fun σ1 k1 f1 => dw_gi (by omega) (by omega) ?_
      rw [dn_nat (show i < 2147483648 by omega), k1.f i hi 5 (by omega), dw_b1]
      refine dw_mono (dT_loop (n := n) (fun t τ => (dMx (fun t => (dPn P t B).1 i 5) (B.1 i 5) t, dn t, τ)) (fun τ => (dMx (fun t => (dPn P t B).1 i 5) (B.1 i 5) n, τ)) k1 h.W h.pp h.ok (by omega) (fun t τ ht hτ => ⟨_, by
        show PR_ahead_n62 τ (dn i) (dn n) u i _ (dn t) = _
        unfold PR_ahead_n62
        rw [if_neg (by rw [dn_le (by omega) (by omega)]; omega)], fun τ1 g1 => by
        show some _ = some _
        rw [g1.f i hi 5 (by omega), dn_suc]; rfl⟩) (fun τ hτ => by
        show PR_ahead_n62 τ (dn i) (dn n) u i _ (dn n) = _
        unfold PR_ahead_n62
        rw [if_pos (by rw [dn_le (by omega) (by omega)]; omega)])) fun e ⟨τ, he, k2, f2⟩ => ?_
      subst he
      have ff := dF_trans f1 f2
      have hτ1 : dC τ 1 p P B := dC_F (by omega) ff h.C
      dsimp only
      rw [k2.f i hi 2 (by omega), k2.f i hi 3 (by omega), k2.f i hi 9 (by omega), hτ1.f i hi 9 (by omega), px_gi (by omega) (by omega)]
      -- the reference
      have ref : ∀ (Q : Int32 × pxS → Prop), (∀ μ3, dGs μ μ3 → (∀ x, x < 308 → μ3 (1, 28, 0) x = μ (1, 28, 0) x) → Q ((if u = 0 then (dPn P n B).1 i 2 else if u = 1 then (dPn P n B).1 i 3 else if u = 2 then dMx (fun t => (dPn P t B).1 i 5) (B.1 i 5) n else (dPn P n B).1 i 9 - B.1 i 9), μ3)) → dw (px_b1 (F_Mo_copies_28_29 μ 0 0) fun σ4 =>
  px_gd (dn (13 * i + 2)) 308 (px_gd (dn (13 * i + 5)) 308 (px_b1 (px_it (Mo_ahead_L75 (dn n) u (13 * dn i) (σ4 (1, 28, 0) (dn (13 * i + 5)).toNatClampNeg)) px_N ((σ4 (1, 28, 0) (dn (13 * i + 2)).toNatClampNeg), 0, σ4)) fun e11 =>
  (if u = 0 then px_gd (dn (13 * i + 0)) 308 (px_b1 (F_Mo_copies_29_28 e11.2 0 0) fun σ20 =>
  some ((e11.2 (1, 28, 0) (dn (13 * i + 0)).toNatClampNeg), σ20)) else (if u = 1 then px_gd (dn (13 * i + 1)) 308 (px_b1 (F_Mo_copies_29_28 e11.2 0 0) fun σ17 =>
  some ((e11.2 (1, 28, 0) (dn (13 * i + 1)).toNatClampNeg), σ17)) else (if u = 2 then px_b1 (F_Mo_copies_29_28 e11.2 0 0) fun σ14 =>
  some (e11.1, σ14) else px_gd (dn (13 * i + 5)) 308 (px_b1 (F_Mo_copies_29_28 e11.2 0 0) fun σ13 =>
  some (((e11.2 (1, 28, 0) (dn (13 * i + 5)).toNatClampNeg) - (σ4 (1, 28, 0) (dn (13 * i + 5)).toNatClampNeg)), σ13)))))))) Q := fun Q hQ => by
        rw [dw_b1]
        refine dw_mono (dU_aside h.M hn) fun μ1 ⟨m1, a1, _⟩ => dw_gi (by omega) (by omega) (dw_gi (by omega) (by omega) ?_)
        rw [dn_nat (show 13 * i + 0 < 2147483648 by omega), dn_nat (show 13 * i + 1 < 2147483648 by omega), dn_nat (show 13 * i + 2 < 2147483648 by omega), dn_nat (show 13 * i + 5 < 2147483648 by omega), show μ1 (1, 28, 0) (13 * i + 2) = B.1 i 5 from m1.s.f i hi (5, 2) (by decide), show μ1 (1, 28, 0) (13 * i + 5) = B.1 i 9 from m1.s.f i hi (9, 5) (by decide), dw_b1]
        refine dw_mono (dU_loop (n := n) (fun t τ => (dMx (fun t => (dPn P t B).1 i 5) (B.1 i 5) t, dn t, τ)) (fun τ => (dMx (fun t => (dPn P t B).1 i 5) (B.1 i 5) n, τ)) m1 h.W h.ok (by omega) (fun t τ ht hτ => ⟨_, by
          show Mo_ahead_n75 τ (dn n) u (13 * dn i) _ _ (dn t) = _
          unfold Mo_ahead_n75
          rw [if_neg (by rw [dn_le (by omega) (by omega)]; omega)], fun τ1 g1 => by
          dsimp only
          rw [show 13 * dn i + 2 = dn (13 * i + 2) from ix i 2, px_gi (by omega) (by omega), dgreater, px_b1_s, dn_nat (by omega), g1.s.f i hi (5, 2) (by decide), dn_suc]; rfl⟩) (fun τ hτ => by
          show Mo_ahead_n75 τ (dn n) u (13 * dn i) _ _ (dn n) = _
          unfold Mo_ahead_n75
          rw [if_pos (by rw [dn_le (by omega) (by omega)]; omega)])) fun e ⟨τ', he, m2, g2⟩ => ?_
        subst he
        dsimp only
        rw [show τ' (1, 28, 0) (13 * i + 0) = (dPn P n B).1 i 2 from m2.s.f i hi (2, 0) (by decide), show τ' (1, 28, 0) (13 * i + 1) = (dPn P n B).1 i 3 from m2.s.f i hi (3, 1) (by decide), show τ' (1, 28, 0) (13 * i + 5) = (dPn P n B).1 i 9 from m2.s.f i hi (9, 5) (by decide)]
        have fin : ∀ (x : Int32), x = (if u = 0 then (dPn P n B).1 i 2 else if u = 1 then (dPn P n B).1 i 3 else if u = 2 then dMx (fun t => (dPn P t B).1 i 5) (B.1 i 5) n else (dPn P n B).1 i 9 - B.1 i 9) → dw (px_b1 (F_Mo_copies_29_28 τ' 0 0) fun σ20 => some (x, σ20)) Q := fun x hx => by
          rw [dw_b1]
          refine dw_mono (dU_back (dAs_3 a1 g2)) fun μ3 ⟨b1, b2, _⟩ => dw_some.mpr ?_
          rw [hx]
          exact hQ μ3 b1 b2
        by_cases u0 : u = 0
        · rw [if_pos u0]; exact dw_gi (by omega) (by omega) (fin _ (by rw [if_pos u0]))
        rw [if_neg u0]
        by_cases u1 : u = 1
        · rw [if_pos u1]; exact dw_gi (by omega) (by omega) (fin _ (by rw [if_neg u0, if_pos u1]))
        rw [if_neg u1]
        by_cases u2 : u = 2
        · rw [if_pos u2]; exact fin _ (by rw [if_neg u0, if_neg u1, if_pos u2])
        rw [if_neg u2]
        exact dw_gi (by omega) (by omega) (fin _ (by rw [if_neg u0, if_neg u1, if_neg u2]))
      by_cases u0 : u = 0
      · rw [if_pos u0]
        refine dw_some.mpr (ref _ fun μ3 b1 b2 => dSt_try h ?_ ff b1 b2)
        rw [if_pos u0]
      rw [if_neg u0]
      by_cases u1 : u = 1
      · rw [if_pos u1]
        refine dw_some.mpr (ref _ fun μ3 b1 b2 => dSt_try h ?_ ff b1 b2)
        rw [if_neg u0, if_pos u1]
      rw [if_neg u1]
      by_cases u2 : u = 2
      · rw [if_pos u2]
        refine dw_some.mpr (ref _ fun μ3 b1 b2 => dSt_try h ?_ ff b1 b2)
        rw [if_neg u0, if_neg u1, if_pos u2]
      rw [if_neg u2]
      refine dw_some.mpr (ref _ fun μ3 b1 b2 => dSt_try h ?_ ff b1 b2)
      rw [if_neg u0, if_neg u1, if_neg u2]
    · rw [if_neg c4, if_neg c4]; exact dSt_2 rfl h
  · rw [e1, e2]
    exact dSt_2 rfl h
end F9
end
section
/-! quiet; if a load were, if one went off -/
abbrev dStl (P : dP) (B : dB) (i : Nat) : Prop := (B.1 i 2 = 0 ∨ (B.1 i 2 = 3 ∧ B.1 i 3 = P.2.2.2 2 i)) ∧ B.1 i 11 = -2
abbrev dQt (P : dP) (B : dB) : Prop := B.2.1 = [] ∧ B.2.2.1 = [] ∧ ¬ B.2.2.2.2.2.1 = 1 ∧ ∀ i, i < P.1 → dStl P B i
def dOr (c : Nat → Bool) : Nat → Int32
  | 0 => 0
  | t + 1 => if c t = true then dOr c t ||| (1 <<< (dn t &&& 31)) else dOr c t
theorem db_dor {c : Nat → Bool} {i : Nat} : ∀ {t : Nat}, t ≤ 32 → db (dOr c t) i = (decide (i < t) && c i) := by
  intro t
  induction t with
  | zero => intro _; simp [dOr, db_zero]
  | succ t ih =>
    intro ht
    unfold dOr
    by_cases h : c t = true
    · rw [if_pos h, db_or, ih (by omega), db_one (by omega)]
      by_cases e : t = i
      · subst e; simp [h]
      · have : i < t + 1 ↔ i < t := by omega
        simp [e, this]
    · rw [if_neg h, ih (by omega)]
      by_cases e : i = t
      · subst e; simp [h]
      · have : i < t + 1 ↔ i < t := by omega
        simp [this]
theorem dleast (Q : Nat → Prop) [DecidablePred Q] : ∀ n, ∃ q, q ≤ n ∧ (∀ t, t < q → ¬ Q t) ∧ (q = n ∨ Q q) := by
  intro n
  induction n with
  | zero => exact ⟨0, Nat.le_refl _, fun t ht => absurd ht (by omega), Or.inl rfl⟩
  | succ n ih =>
    obtain ⟨q, h1, h2, h3⟩ := ih
    rcases h3 with rfl | h3
    · by_cases c : Q q
      · exact ⟨q, by omega, h2, Or.inr c⟩
      · refine ⟨q + 1, Nat.le_refl _, fun t ht => ?_, Or.inl rfl⟩
        by_cases e : t = q
        · rw [e]; exact c
        · exact h2 t (by omega)
    · exact ⟨q, by omega, h2, Or.inr h3⟩
section F10
variable {σ σ' μ μ' μ1 μ2 : pxS} {P : dP} {k p f : Nat} {B B' : dB} {I : Option dB} {H : List dB}
theorem dn_neg2 : ((-2 : Int32) < 0) := by decide
theorem dC_qt {T : Nat} (h : dC σ k p P B) (W : dWA P) (hp : p < 2) (ok : dOK P T B) : F_Bo_isQuiet σ k = some (if dQt P B then 1 else 0) := by
  have hn := W.wp.n
  have hm := ok.1.m
  have hwl := dL_len ok.1.b.w
  have hrl := dL_len ok.1.b.r
  suffices hh : dw (F_Bo_isQuiet σ k) (fun r => r = if dQt P B then 1 else 0) by
    obtain ⟨a, e, rfl⟩ := hh; exact e
  unfold F_Bo_isQuiet Bo_isQuiet_n28
  rw [h.w.s, h.r.s, h.mode]
  by_cases c0 : B.2.1 = []
  · rw [if_neg (by rw [show (0 : Int32) = dn 0 from rfl, dn_lt (by omega) (by omega), c0]; simp)]
    by_cases c1 : B.2.2.1 = []
    · rw [if_neg (by rw [show (0 : Int32) = dn 0 from rfl, dn_lt (by omega) (by omega), c1]; simp)]
      by_cases c2 : B.2.2.2.2.2.1 = 1
      · rw [if_pos (by rw [c2]; rfl), if_neg (fun z => z.2.2.1 c2)]
        exact dw_some.mpr rfl
      · rw [if_neg (by rw [show (1 : Int32) = dn 1 from rfl, dn_inj (by omega) (by omega)]; exact c2), dw_b1]
        have no : ∀ (i : Nat), i < P.1 → ¬ dStl P B i → (0 : Nat) = if dQt P B then 1 else 0 := fun i hi c => by
          rw [if_neg (fun z => c (z.2.2.2 i hi))]
        refine dw_mono (P := fun e : Nat => e = if dQt P B then 1 else 0) ?_ fun e he => ?_
        · refine dw_up P.1 (by unfold px_N; omega) (fun t s => s = dn t ∧ ∀ i, i < t → dStl P B i) (fun t s ht hI => ?_) (fun s hI => ?_) (Nat.zero_le _) ⟨rfl, fun i hi => absurd hi (by omega)⟩
          · obtain ⟨rfl, h1⟩ := hI
            show dw (Bo_isQuiet_n32 σ k (dn t)) _
            unfold Bo_isQuiet_n32 Bo_isQuiet_n81 Bo_isQuiet_n85
            rw [dC_n h hp, if_neg (by rw [dn_le (by omega) (by omega)]; omega)]
            refine dw_gi (by omega) (by omega) ?_
            rw [dn_nat (show t < 2147483648 by omega), h.f t ht 2 (by omega), h.f t ht 3 (by omega), h.f t ht 11 (by omega), h.hp, dn_nat (by omega), h.P.a 2 (by omega) t ht]
            obtain ⟨a, l, el, hal, hl1, hl9, ea⟩ := (ok.2.1.r t ht).v
            have hag := (ok.2.1.r t ht).a
            have next : ∀ {QQ : Nat → Prop}, dStl P B t → dw (some (.inl (dn t + 1)) : Option (Int32 ⊕ Nat)) (dR (fun s => s = dn (t + 1) ∧ ∀ i, i < t + 1 → dStl P B i) QQ) := fun z => by
              simp only [dw_some, dR_l]
              refine ⟨dn_suc t, fun i hi => ?_⟩
              by_cases e : i = t
              · rw [e]; exact z
              · exact h1 i (by omega)
            have stop : ∀ {II : Int32 → Prop}, ¬ dStl P B t → dw (some (.inr 0) : Option (Int32 ⊕ Nat)) (dR II (fun e => e = if dQt P B then 1 else 0)) := fun z => by
              simp only [dw_some, dR_r]
              exact no t ht z
            have ag : ∀ {QQ : Option (Int32 ⊕ Nat) → Prop}, True := trivial
            have hneg : (B.1 t 11 < 0) ↔ B.1 t 11 = -2 := by
              rcases hag with z | ⟨_, x, x1, x2, z⟩
              · rw [z]; exact ⟨fun _ => rfl, fun _ => dn_neg2⟩
              · rw [z]
                refine ⟨fun y => absurd y (dn_nn (by omega)), fun y => absurd ?_ (dn_nn (i := x) (by omega))⟩
                rw [y]; exact dn_neg2
            by_cases s0 : B.1 t 2 = 0
            · rw [if_pos s0]
              by_cases a0 : B.1 t 11 < 0
              · rw [if_pos a0]; exact next ⟨Or.inl s0, hneg.mp a0⟩
              · rw [if_neg a0]; exact stop fun z => a0 (hneg.mpr z.2)
            · rw [if_neg s0]
              by_cases s3 : B.1 t 2 = 3
              · rw [if_pos s3]
                refine dw_gi (by omega) (by omega) ?_
                by_cases v0 : B.1 t 3 < P.2.2.2 2 t
                · rw [if_pos v0]
                  refine stop fun z => ?_
                  rcases z.1 with y | y
                  · exact s0 y
                  · rw [y.2] at v0; exact Int32.lt_irrefl v0
                · rw [if_neg v0]
                  have ev : B.1 t 3 = P.2.2.2 2 t := by
                    rw [ea, el, dn_lt (by omega) (by omega)] at v0
                    rw [ea, el]
                    congr 1; omega
                  by_cases a0 : B.1 t 11 < 0
                  · rw [if_pos a0]; exact next ⟨Or.inr ⟨s3, ev⟩, hneg.mp a0⟩
                  · rw [if_neg a0]; exact stop fun z => a0 (hneg.mpr z.2)
              · rw [if_neg s3]
                exact stop fun z => z.1.elim s0 fun y => s3 y.1
          · obtain ⟨rfl, h1⟩ := hI
            show dw (Bo_isQuiet_n32 σ k (dn P.1)) _
            unfold Bo_isQuiet_n32
            rw [dC_n h hp, if_pos (by rw [dn_le (by omega) (by omega)]; omega)]
            simp only [dw_some, dR_r]
            rw [if_pos (show dQt P B from ⟨c0, c1, c2, h1⟩)]
        · subst he
          by_cases c : dQt P B
          · rw [if_pos c, if_neg (by decide), if_pos c]; exact dw_some.mpr rfl
          · rw [if_neg c, if_pos (by decide), if_neg c]; exact dw_some.mpr rfl
    · rw [if_pos (by
        rw [show (0 : Int32) = dn 0 from rfl, dn_lt (by omega) (by omega)]
        exact List.length_pos_iff.mpr c1), if_neg (fun z => c1 z.2.1)]
      exact dw_some.mpr rfl
  · rw [if_pos (by
      rw [show (0 : Int32) = dn 0 from rfl, dn_lt (by omega) (by omega)]
      exact List.length_pos_iff.mpr c0), if_neg (fun z => c0 z.1)]
    exact dw_some.mpr rfl
theorem dAg_0 {x : Int32} {B : dB} (h : x = -2 ∨ (B.1 0 0 = B.1 0 0 ∧ ∃ t, 1 ≤ t ∧ t ≤ 200000 ∧ x = dn t)) : dAg x = 0 ↔ x = -2 := by
  unfold dAg
  rcases h with z | ⟨_, t, t1, t2, z⟩
  · rw [if_pos z]; exact ⟨fun _ => z, fun _ => rfl⟩
  · have hne : ¬ x = -2 := fun y => by
      have := dn_nn (i := t) (by omega)
      rw [← z, y] at this
      exact this dn_neg2
    rw [if_neg hne]
    refine ⟨fun y => ?_, fun y => absurd y hne⟩
    rw [z, show (0 : Int32) = dn 0 from rfl, dn_inj (by omega) (by omega)] at y
    omega
theorem dM_qt {T : Nat} (h : dM μ P B) (W : dWA P) (ok : dOK P T B) : F_Mo_isQuiet μ = some (if dQt P B then 1 else 0) := by
  have hn := W.wp.n
  have hm := ok.1.m
  have hwl := dL_len ok.1.b.w
  have hrl := dL_len ok.1.b.r
  suffices hh : dw (F_Mo_isQuiet μ) (fun r => r = if dQt P B then 1 else 0) by
    obtain ⟨a, e, rfl⟩ := hh; exact e
  unfold F_Mo_isQuiet Mo_isQuiet_n23
  rw [h.s.rl, h.s.mode]
  by_cases c2 : B.2.2.2.2.2.1 = 1
  · rw [if_pos (by rw [c2]; rfl), if_neg (fun z => z.2.2.1 c2)]
    exact dw_some.mpr rfl
  rw [if_neg (by rw [show (1 : Int32) = dn 1 from rfl, dn_inj (by omega) (by omega)]; exact c2)]
  by_cases c1 : B.2.2.1 = []
  · rw [if_pos (by rw [show (0 : Int32) = dn 0 from rfl, dn_le (by omega) (by omega), c1]; simp), dw_b1]
    have no : ∀ (i : Nat), i < P.1 → ¬ dStl P B i → (0 : Nat) = if dQt P B then 1 else 0 := fun i hi c => by
      rw [if_neg (fun z => c (z.2.2.2 i hi))]
    refine dw_mono (P := fun e : Nat => e = if dQt P B then 1 else 0) ?_ fun e he => ?_
    · refine dw_up P.1 (by unfold px_N; omega) (fun t s => s = dn t ∧ ∀ i, i < t → dStl P B i) (fun t s ht hI => ?_) (fun s hI => ?_) (Nat.zero_le _) ⟨rfl, fun i hi => absurd hi (by omega)⟩
      · obtain ⟨rfl, h1⟩ := hI
        show dw (Mo_isQuiet_n27 μ (dn t)) _
        have hrl := ok.2.1.r t ht
        have hag : dAg (B.1 t 11) = 0 ↔ B.1 t 11 = -2 := dAg_0 (B := B) (hrl.a.imp id fun z => ⟨rfl, z.2⟩)
        have next : ∀ {QQ : Nat → Prop}, dStl P B t → dw (some (.inl (dn t + 1)) : Option (Int32 ⊕ Nat)) (dR (fun s => s = dn (t + 1) ∧ ∀ i, i < t + 1 → dStl P B i) QQ) := fun z => by
          simp only [dw_some, dR_l]
          refine ⟨dn_suc t, fun i hi => ?_⟩
          by_cases e : i = t
          · rw [e]; exact z
          · exact h1 i (by omega)
        have stop : ∀ {II : Int32 → Prop}, ¬ dStl P B t → dw (some (.inr 0) : Option (Int32 ⊕ Nat)) (dR II (fun e => e = if dQt P B then 1 else 0)) := fun z => by
          simp only [dw_some, dR_r]
          exact no t ht z
        have no3 : ∀ i, i < P.1 → B.1 i 2 = 3 → B.1 i 11 = -2 := fun i hi z => dK_no ok.2.1 hi (by rw [z]; decide)
        have up : (B.1 t 2 = 0 → ¬ B.1 t 11 = -2) → dw (Mo_isQuiet_n58 μ (dn t)) (dR (fun s => s = dn (t + 1) ∧ ∀ i, i < t + 1 → dStl P B i) (fun e => e = if dQt P B then 1 else 0)) := fun hno => by
          unfold Mo_isQuiet_n58 Mo_isQuiet_n87 Mo_isQuiet_n91
          refine dw_v (dM_state h hn ht) ?_
          by_cases s3 : B.1 t 2 = 3
          · rw [if_pos s3, show 13 * dn t + 1 = dn (13 * t + 1) from ix t 1]
            refine dw_gi (by omega) (by omega) (dw_gi (by omega) (by omega) ?_)
            rw [dn_nat (show 13 * t + 1 < 2147483648 by omega), dn_nat (show t < 2147483648 by omega), show μ (1, 28, 0) (13 * t + 1) = B.1 t 3 from h.s.f t ht (3, 1) (by decide), show μ (1, 7, 0) t = P.2.2.2 2 t from h.P.a 2 (by omega) t ht]
            by_cases v0 : B.1 t 3 = P.2.2.2 2 t
            · rw [if_pos v0]; exact next ⟨Or.inr ⟨s3, v0⟩, no3 t ht s3⟩
            · rw [if_neg v0]
              refine stop fun z => ?_
              rcases z.1 with y | y
              · rw [s3] at y; exact absurd y (by decide)
              · exact v0 y.2
          · rw [if_neg s3]
            refine stop fun z => ?_
            rcases z.1 with y | y
            · exact hno y z.2
            · exact s3 y.1
        unfold Mo_isQuiet_n27
        refine dw_v (dM_n h) ?_
        rw [if_neg (by rw [dn_le (by omega) (by omega)]; omega), show 13 * dn t + 10 = dn (13 * t + 10) from ix t 10]
        refine dw_gi (by omega) (by omega) ?_
        rw [dn_nat (by omega), show μ (1, 28, 0) (13 * t + 10) = dAg (B.1 t 11) from h.s.ag t ht]
        by_cases a0 : dAg (B.1 t 11) = 0
        · rw [if_pos a0]
          refine dw_v (dM_state h hn ht) ?_
          by_cases s0 : B.1 t 2 = 0
          · rw [if_pos s0]; exact next ⟨Or.inl s0, hag.mp a0⟩
          · rw [if_neg s0]; exact up fun z => absurd z s0
        · rw [if_neg a0]; exact up fun _ z => a0 (hag.mpr z)
      · obtain ⟨rfl, h1⟩ := hI
        show dw (Mo_isQuiet_n27 μ (dn P.1)) _
        unfold Mo_isQuiet_n27
        refine dw_v (dM_n h) ?_
        rw [if_pos (by rw [dn_le (by omega) (by omega)]; omega)]
        simp only [dw_some, dR_r]
        have c0 : B.2.1 = [] := by
          cases e : B.2.1 with
          | nil => rfl
          | cons i l =>
            have hm : i ∈ B.2.1 := by rw [e]; simp
            have hi := ok.1.b.w.2 i hm
            have h1s := (ok.1.b.ws i hi).mpr hm
            rcases (h1 i hi).1 with y | y
            · rw [h1s] at y; exact absurd y (by decide)
            · rw [h1s] at y; exact absurd y.1 (by decide)
        rw [if_pos (show dQt P B from ⟨c0, c1, c2, h1⟩)]
    · subst he
      by_cases c : dQt P B
      · rw [if_pos c, if_neg (by decide), if_pos c]; exact dw_some.mpr rfl
      · rw [if_neg c, if_pos (by decide), if_neg c]; exact dw_some.mpr rfl
  · rw [if_neg (by
      rw [show (0 : Int32) = dn 0 from rfl, dn_le (by omega) (by omega)]
      have := List.length_pos_iff.mpr c1
      omega), if_neg (fun z => c1 z.2.1)]
    exact dw_some.mpr rfl
theorem dS_quiet (h : dI σ μ P p B I H f) : dSt (F_PR_quiet σ) (F_Mo_quiet μ) := by
  unfold F_PR_quiet F_Mo_quiet
  have h := dI_th (v := 0) h
  rw [px_l]
  generalize px_up μ (0, 0, 0) 0 0 = μ at h
  have hn := h.W.wp.n
  obtain ⟨q, q1, q2, q3⟩ := dleast (fun t => dQt P (dPn P t B)) 300
  have okn := fun t (ht : t ≤ 300) => (dPn_ok h.W h.ok t (by omega)).1
  rw [dSt]
  refine dw_T (dT_cp h.C (show 2 ≠ 1 by omega) h.pp h.W.wp h.ok.1.b h.ok.2.1) fun σ1 k1 f1 => ?_
  rw [dw_b1]
  refine dw_mono (dT_loop (n := q) (fun t τ => (dn t, τ)) (fun τ => if q = 300 then ((1 : Nat), (0 : Int32), τ) else (0, dn q, τ)) k1 h.W h.pp h.ok (by omega) (fun t τ ht hτ => ⟨_, by
    show PR_quiet_n13 τ (dn t) = _
    unfold PR_quiet_n13
    rw [if_neg (by rw [show (300 : Int32) = dn 300 from rfl, dn_le (by omega) (by omega)]; omega), dC_qt hτ h.W h.pp (okn t (by omega)), px_b1_s, if_neg (q2 t ht), if_pos rfl], fun τ1 g1 => by
    show some _ = some _
    rw [dn_suc]⟩) (fun τ hτ => by
    show PR_quiet_n13 τ (dn q) = _
    unfold PR_quiet_n13
    by_cases c : q = 300
    · rw [if_pos (by rw [show (300 : Int32) = dn 300 from rfl, dn_le (by omega) (by omega)]; omega), if_pos c]
    · rw [if_neg (by rw [show (300 : Int32) = dn 300 from rfl, dn_le (by omega) (by omega)]; omega), dC_qt hτ h.W h.pp (okn q (by omega)), px_b1_s, if_pos (q3.resolve_left c), if_neg (by decide), if_neg c])) fun e ⟨τ, he, k2, f2⟩ => ?_
  have ff := dF_trans f1 f2
  have ref : ∀ (Q : Int32 × pxS → Prop), (∀ μ3, dGs μ μ3 → (∀ x, x < 308 → μ3 (1, 28, 0) x = μ (1, 28, 0) x) → Q ((if dQt P (dPn P q B) then dn q else -2), μ3)) → dw (px_b1 (F_Mo_copies_28_29 μ 0 0) fun σ2 =>
      px_b1 (px_it (Mo_quiet_L20) px_N (0, σ2)) fun e7 =>
      px_b1 (F_Mo_isQuiet e7.2) fun r8 =>
      px_b1 (F_Mo_copies_29_28 e7.2 0 0) fun σ9 =>
      (if r8 = 0 then some ((-2), σ9) else some (e7.1, σ9))) Q := fun Q hQ => by
    rw [dw_b1]
    refine dw_mono (dU_aside h.M hn) fun μ1 ⟨m1, a1, _⟩ => ?_
    rw [dw_b1]
    refine dw_mono (dU_loop (n := q) (fun t τ => (dn t, τ)) (fun τ => (dn q, τ)) m1 h.W h.ok (by omega) (fun t τ ht hτ => ⟨_, by
      show Mo_quiet_n20 τ (dn t) = _
      unfold Mo_quiet_n20
      rw [if_neg (by rw [show (300 : Int32) = dn 300 from rfl, dn_le (by omega) (by omega)]; omega), dM_qt hτ h.W (okn t (by omega)), px_b1_s, if_neg (q2 t ht), if_pos rfl], fun τ1 g1 => by
      show some _ = some _
      rw [dn_suc]⟩) (fun τ hτ => by
      show Mo_quiet_n20 τ (dn q) = _
      unfold Mo_quiet_n20
      by_cases c : q = 300
      · rw [if_pos (by rw [show (300 : Int32) = dn 300 from rfl, dn_le (by omega) (by omega)]; omega)]
      · rw [if_neg (by rw [show (300 : Int32) = dn 300 from rfl, dn_le (by omega) (by omega)]; omega), dM_qt hτ h.W (okn q (by omega)), px_b1_s, if_pos (q3.resolve_left c), if_neg (by decide)])) fun e ⟨τ', he, m2, g2⟩ => ?_
    subst he
    dsimp only
    refine dw_v (dM_qt m2 h.W (okn q (by omega))) ?_
    rw [dw_b1]
    refine dw_mono (dU_back (dAs_3 a1 g2)) fun μ3 ⟨b1, b2, _⟩ => ?_
    have := hQ μ3 b1 b2
    by_cases c : dQt P (dPn P q B)
    · rw [if_pos c, if_neg (by decide)]
      rw [if_pos c] at this
      exact dw_some.mpr this
    · rw [if_neg c, if_pos rfl]
      rw [if_neg c] at this
      exact dw_some.mpr this
  subst he
  by_cases c : q = 300
  · rw [if_pos c, if_neg (show ¬ (1 : Nat) = 0 by decide)]
    refine dw_v (dC_qt k2 h.W h.pp (okn q (by omega))) ?_
    by_cases c2 : dQt P (dPn P q B)
    · rw [if_pos c2, if_neg (by decide)]
      refine dw_some.mpr (ref _ fun μ3 b1 b2 => dSt_try h ?_ ff b1 b2)
      rw [if_pos c2, c]; rfl
    · rw [if_neg c2, if_pos rfl]
      refine dw_some.mpr (ref _ fun μ3 b1 b2 => dSt_try h ?_ ff b1 b2)
      rw [if_neg c2]
  · rw [if_neg c, if_pos rfl]
    refine dw_some.mpr (ref _ fun μ3 b1 b2 => dSt_try h ?_ ff b1 b2)
    rw [if_pos (q3.resolve_left c)]
end F10
end
section
section F11
variable {σ σ' μ μ' μ1 μ2 : pxS} {P : dP} {k p f : Nat} {B B' : dB} {I : Option dB} {H : List dB}
theorem dMs_29 {μ μ2 : pxS} (h : dM μ P B) (ok : dOK P 9999 B) (hn : P.1 ≤ 12) (ha : dAs μ μ2) : dMs (μ2 (1, 29, 0)) P B := by
  have hwl := dL_len ok.1.b.w
  have hrl := dL_len ok.1.b.r
  exact dMs_c hn (by omega) (by omega) ha.2 h.s
theorem dS_ifLoad (h : dI σ μ P p B I H f) (v w : Int32) : dSt (F_PR_ifLoad σ v w) (F_Mo_ifLoad μ v w) := by
  unfold F_PR_ifLoad F_Mo_ifLoad PR_ifLoad_n19 Mo_ifLoad_n24
  have h := dI_th (v := 0) h
  rw [px_l]
  generalize px_up μ (0, 0, 0) 0 0 = μ at h
  have hn := h.W.wp.n
  have hp := h.pp
  rcases dIr h v with ⟨i, hi, rfl, e1, e2⟩ | ⟨_, e1, e2⟩
  · rw [e1, e2, px_b1_s, px_b1_s, if_neg (show ¬ (1 : Int32) = 0 by decide), if_neg (show ¬ (1 : Int32) = 0 by decide), show 13 * dn i + 6 = dn (13 * i + 6) from ix i 6]
    rcases dn_cases w with c | ⟨n, hn2, rfl⟩
    · rw [if_pos c, if_pos c]; exact dSt_2 rfl h
    rw [if_neg (dn_nn hn2), if_neg (dn_nn hn2)]
    by_cases c : n ≤ 9999
    · have hc : dn n ≤ 9999 := by rw [show (9999 : Int32) = dn 9999 from rfl, dn_le (by omega) (by omega)]; exact c
      rw [if_pos hc, if_pos hc, dSt]
      have ok' : dOK P 9999 (B.st i 0 (dn n)) := ⟨dSV_st h.ok.1 (by omega), dK_0 h.ok.2.1 ⟨n, c, rfl⟩, h.ok.2.2⟩
      refine dw_T (dT_cp h.C (show 2 ≠ 1 by omega) h.pp h.W.wp h.ok.1.b h.ok.2.1) fun σ1 k1 f1 => dw_gi (by omega) (by omega) ?_
      rw [dn_nat (show i < 2147483648 by omega)]
      refine dw_st k1 fun σ2 k2 f2 => ?_
      rw [dw_b1]
      refine dw_mono (dT_loop (n := 100) (fun t τ => (dn t, τ)) (fun τ => τ) k2 h.W h.pp ok' (by omega) (fun t τ ht hτ => ⟨_, by
        show PR_ifLoad_n47 τ (dn t) = _
        unfold PR_ifLoad_n47
        rw [if_neg (by rw [show (100 : Int32) = dn 100 from rfl, dn_le (by omega) (by omega)]; omega)], fun τ1 g1 => by
        show some _ = some _
        rw [dn_suc]⟩) (fun τ hτ => by
        show PR_ifLoad_n47 τ (dn 100) = _
        unfold PR_ifLoad_n47
        rw [if_pos (by decide)])) fun e ⟨τ, he, k3, f3⟩ => ?_
      subst he
      have ff := dF_trans f1 (dF_trans f2 f3)
      have hτ1 : dC e 1 p P B := dC_F (by omega) ff h.C
      have e06 : e (0, 0, 0) 6 = dn p := by rw [ff _ (by simp [dbk])]; exact h.cp
      obtain ⟨B2, hB2⟩ : ∃ X, X = dPn P 100 (B.st i 0 (dn n)) := ⟨_, rfl⟩
      rw [← hB2] at k3
      rw [dw_b1]
      refine dw_mono (P := fun r => r = dOr (fun t => decide (¬ B2.1 t 9 ≤ B.1 t 9)) P.1) ?_ fun r hr => ?_
      · refine dw_up P.1 (by unfold px_N; omega) (fun t s => s.1 = dOr (fun t => decide (¬ B2.1 t 9 ≤ B.1 t 9)) t ∧ s.2 = dn t) (fun t s ht hI => ?_) (fun s hI => ?_) (Nat.zero_le _) ⟨rfl, rfl⟩
        · obtain ⟨v3, v4⟩ := s
          obtain ⟨rfl, rfl⟩ := hI
          show dw (PR_ifLoad_n71 e _ _) _
          unfold PR_ifLoad_n71 PR_ifLoad_n119
          rw [e06, dn_nat (show p < 2147483648 by omega), hτ1.P.n, if_neg (by rw [dn_le (by omega) (by omega)]; omega)]
          refine dw_gi (by omega) (by omega) (dw_gi (by omega) (by omega) ?_)
          rw [dn_nat (by omega), k3.f t ht 9 (by omega), hτ1.f t ht 9 (by omega)]
          by_cases c2 : B2.1 t 9 ≤ B.1 t 9
          · rw [if_pos c2]
            simp only [dw_some, dR_l]
            exact ⟨by rw [dOr, if_neg (by simp [c2])], dn_suc t⟩
          · rw [if_neg c2]
            simp only [dw_some, dR_l]
            exact ⟨by rw [dOr, if_pos (by simp only [decide_eq_true_eq]; exact c2)], dn_suc t⟩
        · obtain ⟨v3, v4⟩ := s
          obtain ⟨rfl, rfl⟩ := hI
          show dw (PR_ifLoad_n71 e _ _) _
          unfold PR_ifLoad_n71
          rw [e06, dn_nat (show p < 2147483648 by omega), hτ1.P.n, if_pos (by rw [dn_le (by omega) (by omega)]; omega)]
          simp only [dw_some, dR_r]
      · subst hr
        rw [dw_some, dw_b1]
        refine dw_mono (dU_aside h.M hn) fun μ1 ⟨m1, a1, _⟩ => ?_
        refine du_st (0, 6) m1 hn hi (by decide) rfl fun μ2 m2 g2 => ?_
        rw [dw_b1]
        refine dw_mono (dU_loop (n := 100) (fun t τ => (dn t, τ)) (fun τ => τ) m2 h.W ok' (by omega) (fun t τ ht hτ => ⟨_, by
          show Mo_ifLoad_n54 τ (dn t) = _
          unfold Mo_ifLoad_n54
          rw [if_neg (by rw [show (100 : Int32) = dn 100 from rfl, dn_le (by omega) (by omega)]; omega)], fun τ1 g1 => by
          show some _ = some _
          rw [dn_suc]⟩) (fun τ hτ => by
          show Mo_ifLoad_n54 τ (dn 100) = _
          unfold Mo_ifLoad_n54
          rw [if_pos (by decide)])) fun e' ⟨τ', he, m3, g3⟩ => ?_
        subst he
        rw [← hB2] at m3
        have as2 := dAs_3 a1 (dG3_trans (dG3_of g2) g3)
        have s29 := dMs_29 h.M h.ok hn as2
        rw [dw_b1]
        refine dw_mono (P := fun r => r = dOr (fun t => decide (¬ B2.1 t 9 ≤ B.1 t 9)) P.1) ?_ fun r hr => ?_
        · refine dw_up P.1 (by unfold px_N; omega) (fun t s => s.1 = dOr (fun t => decide (¬ B2.1 t 9 ≤ B.1 t 9)) t ∧ s.2 = dn t) (fun t s ht hI => ?_) (fun s hI => ?_) (Nat.zero_le _) ⟨rfl, rfl⟩
          · obtain ⟨v3, v4⟩ := s
            obtain ⟨rfl, rfl⟩ := hI
            show dw (Mo_ifLoad_n75 e' _ _) _
            unfold Mo_ifLoad_n75 Mo_ifLoad_n118
            refine dw_v (dM_n m3) ?_
            rw [if_neg (by rw [dn_le (by omega) (by omega)]; omega), show 13 * dn t + 5 = dn (13 * t + 5) from ix t 5]
            refine dw_gi (by omega) (by omega) (dw_gi (by omega) (by omega) ?_)
            rw [dn_nat (by omega), show e' (1, 28, 0) (13 * t + 5) = B2.1 t 9 from m3.s.f t ht (9, 5) (by decide), show e' (1, 29, 0) (13 * t + 5) = B.1 t 9 from s29.f t ht (9, 5) (by decide)]
            by_cases c2 : B2.1 t 9 ≤ B.1 t 9
            · rw [if_pos c2]
              simp only [dw_some, dR_l]
              exact ⟨by rw [dOr, if_neg (by simp [c2])], dn_suc t⟩
            · rw [if_neg c2]
              simp only [dw_some, dR_l]
              exact ⟨by rw [dOr, if_pos (by simp only [decide_eq_true_eq]; exact c2)], dn_suc t⟩
          · obtain ⟨v3, v4⟩ := s
            obtain ⟨rfl, rfl⟩ := hI
            show dw (Mo_ifLoad_n75 e' _ _) _
            unfold Mo_ifLoad_n75
            refine dw_v (dM_n m3) ?_
            rw [if_pos (by rw [dn_le (by omega) (by omega)]; omega)]
            simp only [dw_some, dR_r]
        · subst hr
          rw [dw_b1]
          refine dw_mono (dU_back as2) fun μ3 ⟨b1, b2, _⟩ => dw_some.mpr ?_
          exact dSt_try h rfl ff b1 b2
    · have hc : ¬ dn n ≤ 9999 := by rw [show (9999 : Int32) = dn 9999 from rfl, dn_le (by omega) (by omega)]; exact c
      rw [if_neg hc, if_neg hc]; exact dSt_2 rfl h
  · rw [e1, e2]
    exact dSt_2 rfl h
/-- to be unwound, off: what waited waits, or is off -/
theorem dUn_1 {n : Nat} {set : Int32} {j : Nat} : (dUn n set B).1 j 2 = B.1 j 2 ∨ (dUn n set B).1 j 2 = 0 := by
  have e : (dUn n set B).1 j 2 = (dUW set n B).1 j 2 := dRow_2 12 _
  rw [e]
  exact dUW_1 n
theorem dAsk_1 {i j : Nat} : (dAsk P B i true).1 j 2 = B.1 j 2 ∨ (dAsk P B i true).1 j 2 = 0 := by
  have h0 : ∀ j, (B.as i).1 j 2 = B.1 j 2 := fun j => (dB.st_ne (Or.inr (by omega))).trans ((dB.st_ne (Or.inr (by omega))).trans (dB.st_ne (Or.inr (by omega))))
  unfold dAsk
  rw [if_neg (by decide)]
  by_cases c2 : (B.as i).1 i 2 = 1
  · rw [if_pos c2]
    by_cases e : j = i
    · subst e; exact Or.inr dB.st_eq
    · left; rw [dB.out_ne (Or.inl e)]; exact h0 j
  · rw [if_neg c2]
    by_cases c3 : (B.as i).on i
    · rw [if_pos c3]
      have := dUn_1 (B := B.as i) (n := P.1) (set := dSet P i) (j := j)
      rw [h0 j] at this
      exact this
    · rw [if_neg c3]; exact Or.inl (h0 j)
theorem dS_ifOff (h : dI σ μ P p B I H f) (v : Int32) : dSt (F_PR_ifOff σ v) (F_Mo_ifOff μ v) := by
  unfold F_PR_ifOff F_Mo_ifOff
  have h := dI_th (v := 0) h
  rw [px_l]
  generalize px_up μ (0, 0, 0) 0 0 = μ at h
  have hn := h.W.wp.n
  have hp := h.pp
  rcases dIr h v with ⟨i, hi, rfl, e1, e2⟩ | ⟨_, e1, e2⟩
  · rw [e1, e2, px_b1_s, px_b1_s, if_neg (show ¬ (1 : Int32) = 0 by decide), if_neg (show ¬ (1 : Int32) = 0 by decide), dSt]
    refine dw_T (dT_cp h.C (show 2 ≠ 1 by omega) h.pp h.W.wp h.ok.1.b h.ok.2.1) fun σ1 k1 f1 => ?_
    refine dw_T (dT_ask (off := true) k1 h.W.wp hp h.ok.1.b hi) fun σ2 k2 f2 => ?_
    have ff := dF_trans f1 f2
    have hτ1 : dC σ2 1 p P B := dC_F (by omega) ff h.C
    have ok2 := dOK_ask (off := true) h.ok hi
    rw [dw_some, dw_b1]
    refine dw_mono (dU_aside h.M hn) fun μ1 ⟨m1, a1, _⟩ => ?_
    refine du_T (dU_ask (off := true) m1 h.ok.1.b hn h.W.H hi) fun μ2 m2 g2 => ?_
    have as2 := dAs_3 a1 (dG3_of g2)
    have s29 := dMs_29 h.M h.ok hn as2
    have d1 : ∀ j, (dAsk P B i true).1 j 2 = B.1 j 2 ∨ (dAsk P B i true).1 j 2 = 0 := fun j => dAsk_1
    obtain ⟨B2, hB2⟩ : ∃ X, X = dAsk P B i true := ⟨_, rfl⟩
    rw [← hB2] at k2 ok2 m2 d1
    have wl := h.ok.1.b.w
    have rl := h.ok.1.b.r
    have rl2 := ok2.1.b.r
    have key : ∀ t, t < P.1 → ((t ∈ B2.2.2.1 ∧ t ∉ B.2.2.1) ∨ (B2.1 t 2 = 0 ∧ B.1 t 2 = 1) ↔ (t ∈ B2.2.2.1 ∧ t ∉ B.2.2.1) ∨ (t ∈ B.2.1 ∧ t ∉ B2.2.1)) := fun t ht => by
      have w1 := h.ok.1.b.ws t ht
      have w2 := ok2.1.b.ws t ht
      have : (B2.1 t 2 = 0 ∧ B.1 t 2 = 1) ↔ (t ∈ B.2.1 ∧ t ∉ B2.2.1) := by
        rw [← w1, ← w2]
        constructor
        · intro ⟨a, b⟩; exact ⟨b, fun z => by rw [a] at z; exact absurd z (by decide)⟩
        · intro ⟨a, b⟩
          rcases d1 t with z | z
          · exact absurd (z.trans a) b
          · exact ⟨z, a⟩
      rw [this]
    rw [dw_b1]
    refine dw_mono (P := fun r => r = dOr (fun t => decide ((t ∈ B2.2.2.1 ∧ t ∉ B.2.2.1) ∨ (t ∈ B.2.1 ∧ t ∉ B2.2.1))) P.1) ?_ fun r hr => ?_
    · refine dw_up P.1 (by unfold px_N; omega) (fun t s => s.1 = dOr (fun t => decide ((t ∈ B2.2.2.1 ∧ t ∉ B.2.2.1) ∨ (t ∈ B.2.1 ∧ t ∉ B2.2.1))) t ∧ s.2 = dn t) (fun t s ht hI => ?_) (fun s hI => ?_) (Nat.zero_le _) ⟨rfl, rfl⟩
      · obtain ⟨v3, v4⟩ := s
        obtain ⟨rfl, rfl⟩ := hI
        show dw (Mo_ifOff_n38 μ2 _ _) _
        unfold Mo_ifOff_n38 Mo_ifOff_n112 Mo_ifOff_n81 Mo_ifOff_n118 Mo_ifOff_n112 Mo_ifOff_n118
        refine dw_v (dM_n m2) ?_
        have yes : ∀ {QQ : Int32 → Prop}, (t ∈ B2.2.2.1 ∧ t ∉ B.2.2.1) ∨ (B2.1 t 2 = 0 ∧ B.1 t 2 = 1) → dw (some (.inl (dOr (fun t => decide ((t ∈ B2.2.2.1 ∧ t ∉ B.2.2.1) ∨ (t ∈ B.2.1 ∧ t ∉ B2.2.1))) t ||| (1 <<< (dn t &&& 31)), dn t + 1)) : Option ((Int32 × Int32) ⊕ Int32)) (dR (fun s => s.1 = dOr (fun t => decide ((t ∈ B2.2.2.1 ∧ t ∉ B.2.2.1) ∨ (t ∈ B.2.1 ∧ t ∉ B2.2.1))) (t + 1) ∧ s.2 = dn (t + 1)) QQ) := fun z => by
          rw [key t ht] at z
          simp only [dw_some, dR_l]
          exact ⟨by rw [dOr, if_pos (by simp only [decide_eq_true_eq]; exact z)], dn_suc t⟩
        have no : ∀ {QQ : Int32 → Prop}, ¬ ((t ∈ B2.2.2.1 ∧ t ∉ B.2.2.1) ∨ (B2.1 t 2 = 0 ∧ B.1 t 2 = 1)) → dw (some (.inl (dOr (fun t => decide ((t ∈ B2.2.2.1 ∧ t ∉ B.2.2.1) ∨ (t ∈ B.2.1 ∧ t ∉ B2.2.1))) t, dn t + 1)) : Option ((Int32 × Int32) ⊕ Int32)) (dR (fun s => s.1 = dOr (fun t => decide ((t ∈ B2.2.2.1 ∧ t ∉ B.2.2.1) ∨ (t ∈ B.2.1 ∧ t ∉ B2.2.1))) (t + 1) ∧ s.2 = dn (t + 1)) QQ) := fun z => by
          rw [key t ht] at z
          simp only [dw_some, dR_l]
          exact ⟨by rw [dOr, if_neg (by simp only [decide_eq_true_eq]; exact z)], dn_suc t⟩
        rw [if_neg (by rw [dn_le (by omega) (by omega)]; omega), show 13 * dn t + 8 = dn (13 * t + 8) from ix t 8, show 13 * dn t + 0 = dn (13 * t + 0) from ix t 0]
        refine dw_gi (by omega) (by omega) ?_
        rw [dn_nat (show 13 * t + 8 < 2147483648 by omega), dn_nat (show 13 * t + 0 < 2147483648 by omega), m2.s.ro t ht, s29.ro t ht, show μ2 (1, 29, 0) (13 * t + 0) = B.1 t 2 from s29.f t ht (2, 0) (by decide)]
        have rest : ∀ {QQ : Int32 → Prop}, ¬ (t ∈ B2.2.2.1 ∧ t ∉ B.2.2.1) → dw (px_b1 (F_Mo_state μ2 (dn t)) fun r7 =>
            (if r7 = 0 then px_gd (dn (13 * t + 0)) 308 ((if B.1 t 2 = 1 then some (.inl (dOr (fun t => decide ((t ∈ B2.2.2.1 ∧ t ∉ B.2.2.1) ∨ (t ∈ B.2.1 ∧ t ∉ B2.2.1))) t ||| (1 <<< (dn t &&& 31)), dn t + 1)) else some (.inl (dOr (fun t => decide ((t ∈ B2.2.2.1 ∧ t ∉ B.2.2.1) ∨ (t ∈ B.2.1 ∧ t ∉ B2.2.1))) t, dn t + 1)))) else some (.inl (dOr (fun t => decide ((t ∈ B2.2.2.1 ∧ t ∉ B.2.2.1) ∨ (t ∈ B.2.1 ∧ t ∉ B2.2.1))) t, dn t + 1)))) (dR (fun s => s.1 = dOr (fun t => decide ((t ∈ B2.2.2.1 ∧ t ∉ B.2.2.1) ∨ (t ∈ B.2.1 ∧ t ∉ B2.2.1))) (t + 1) ∧ s.2 = dn (t + 1)) QQ) := fun c => by
          refine dw_v (dM_state m2 hn ht) ?_
          by_cases z0 : B2.1 t 2 = 0
          · rw [if_pos z0]
            refine dw_gi (by omega) (by omega) ?_
            by_cases z1 : B.1 t 2 = 1
            · rw [if_pos z1]; exact yes (Or.inr ⟨z0, z1⟩)
            · rw [if_neg z1]; exact no fun z => z.elim c fun y => z1 y.2
          · rw [if_neg z0]; exact no fun z => z.elim c fun y => z0 y.1
        by_cases c1 : t ∈ B2.2.2.1
        · rw [if_pos c1, if_pos rfl]
          refine dw_gi (by omega) (by omega) ?_
          by_cases c2 : t ∈ B.2.2.1
          · rw [if_pos c2, if_neg (by decide)]
            exact rest fun z => z.2 c2
          · rw [if_neg c2, if_pos rfl]
            exact yes (Or.inl ⟨c1, c2⟩)
        · rw [if_neg c1, if_neg (by decide)]
          exact rest fun z => c1 z.1
      · obtain ⟨v3, v4⟩ := s
        obtain ⟨rfl, rfl⟩ := hI
        show dw (Mo_ifOff_n38 μ2 _ _) _
        unfold Mo_ifOff_n38
        refine dw_v (dM_n m2) ?_
        rw [if_pos (by rw [dn_le (by omega) (by omega)]; omega)]
        simp only [dw_some, dR_r]
    · subst hr
      rw [dw_b1]
      refine dw_mono (dU_back as2) fun μ3 ⟨b1, b2, _⟩ => dw_some.mpr ?_
      refine dSt_try h ?_ ff b1 b2
      apply db_ext
      intro j hj
      rw [db_or, db_and, db_and, db_not hj, db_not hj, k2.r.b j hj, hτ1.r.b j hj, hτ1.w.b j hj, k2.w.b j hj, db_dor (by omega)]
      by_cases c : j < P.1
      · simp [c]
      · have n1 : j ∉ B2.2.2.1 := fun z => c (rl2.2 j z)
        have n2 : j ∉ B.2.1 := fun z => c (wl.2 j z)
        simp [c, n1, n2]
  · rw [e1, e2]
    exact dSt_2 rfl h
end F11
end
section
/-! a limit that is another -/
section F12a
variable {P : dP} {B : dB} {i q : Nat} {v : Int32}
theorem c_ite {c : Prop} [Decidable c] {X Y : dB} : (if c then X else Y).st i q v = if c then X.st i q v else Y.st i q v := by
  by_cases z : c
  · rw [if_pos z, if_pos z]
  · rw [if_neg z, if_neg z]
theorem c_st {j r : Nat} {w : Int32} (h : q ≠ r) : (B.st i q v).st j r w = (B.st j r w).st i q v := dB.st_cm (Or.inr h)
theorem c_wr {r w : Int32} : (B.st i q v).wr r w = (B.wr r w).st i q v := rfl
theorem c_lat {set : Int32} (h : q ≠ 2 ∧ q ≠ 8) : ∀ t, dLat (B.st i q v) set t = dLat B set t := by
  intro t
  induction t with
  | zero => rfl
  | succ t ih =>
    have e1 : ∀ j, (B.st i q v).1 j 8 = B.1 j 8 := fun j => dB.st_ne (Or.inr (by omega))
    have e2 : (B.st i q v).live set t ↔ B.live set t := by
      unfold dB.live dB.on
      rw [dB.st_ne (Or.inr (by omega))]
      rfl
    unfold dLat
    rw [ih]
    by_cases c : B.live set t
    · rw [if_pos c, if_pos (e2.mpr c)]
      cases dLat B set t with
      | none => rfl
      | some j =>
        dsimp only
        rw [e1, e1]
    · rw [if_neg c, if_neg fun z => c (e2.mp z)]
theorem c_uw {set : Int32} (h : q ≠ 2) : ∀ t, dUW set t (B.st i q v) = (dUW set t B).st i q v := by
  intro t
  induction t with
  | zero => rfl
  | succ t ih =>
    unfold dUW
    rw [ih, c_ite, dB.st_ne (Or.inr (by omega))]
    have : ((dUW set t B).st i q v).out t = ((dUW set t B).out t).st i q v := by
      unfold dB.out
      rw [c_st (i := i) (q := q) (v := v) h]; rfl
    rw [this]
theorem c_row {n : Nat} {set : Int32} (h : q ≠ 2 ∧ q ≠ 8 ∧ q ≠ 12) : ∀ (k : Nat) (B : dB), dRow n set k (B.st i q v) = (dRow n set k B).st i q v := by
  intro k
  induction k with
  | zero => intro B; rfl
  | succ k ih =>
    intro B
    unfold dRow
    rw [c_lat (by omega)]
    cases dLat B set n with
    | none => rfl
    | some j =>
      have : (B.st i q v).inr j = (B.inr j).st i q v := by
        unfold dB.inr
        rw [c_st (i := i) (q := q) (v := v) (by omega)]; rfl
      dsimp only
      rw [this, ih]
theorem c_un {n : Nat} {set : Int32} (h : q ≠ 2 ∧ q ≠ 8 ∧ q ≠ 12) : dUn n set (B.st i q v) = (dUn n set B).st i q v := by
  unfold dUn
  rw [c_uw (by omega), c_row h]
theorem c_trip {j : Nat} (h : q ≠ 2 ∧ q ≠ 8 ∧ q ≠ 12 ∧ q ≠ 9) : dTrip P (B.st i q v) j = (dTrip P B j).st i q v := by
  have e : dTr0 P (B.st i q v) j = (dTr0 P B j).st i q v := by
    unfold dTr0
    rw [c_st (i := i) (q := q) (v := v) (by omega), c_wr, c_un (by omega), c_st (i := i) (q := q) (v := v) (by omega), dB.st_ne (Or.inr (by omega))]
  unfold dTrip
  rw [e, c_ite]
  rfl
theorem c_tl1 {t : Nat} (h : q ≠ 2 ∧ q ≠ 3 ∧ q ≠ 7 ∧ q ≠ 8 ∧ q ≠ 12 ∧ q ≠ 9) : dTL1 P (B.st i q v) t = (dTL1 P B t).st i q v := by
  unfold dTL1
  rw [dLw_st (Or.inr (by omega)), c_st (i := i) (q := q) (v := v) (by omega), c_trip (by omega), c_ite, c_ite]
  rfl
theorem c_fo {g : dB → Nat → dB} (hg : ∀ B t, g (B.st i q v) t = (g B t).st i q v) : ∀ t B, dFo g t (B.st i q v) = (dFo g t B).st i q v := by
  intro t
  induction t with
  | zero => intro B; rfl
  | succ t ih => intro B; show g (dFo g t (B.st i q v)) t = _; rw [ih, hg]; rfl
theorem c_tl (h : q ≠ 2 ∧ q ≠ 3 ∧ q ≠ 7 ∧ q ≠ 8 ∧ q ≠ 12 ∧ q ≠ 9) : dTL P (B.st i q v) = (dTL P B).st i q v := c_fo (fun B t => c_tl1 h) P.1 B
theorem c_ta (h : q ≠ 2 ∧ q ≠ 8 ∧ q ≠ 12 ∧ q ≠ 9) : dTA P (B.st i q v) = (dTA P B).st i q v := by
  unfold dTA
  rw [c_lat (by omega)]
  cases dLat B (dAll P.1) P.1 with
  | none => rfl
  | some j => exact c_trip h
theorem c_lf (h : q ≠ 2) : dLF (B.st i q v) = (dLF B).st i q v := by
  unfold dLF
  have e : (B.st i q v).2.2.1 = B.2.2.1 := rfl
  rw [e]
  cases B.2.2.1 with
  | nil => rfl
  | cons j l =>
    have key : ∀ (r' : List Nat), ((dB.st ((B.st i q v).1, (B.st i q v).2.1, r', (B.st i q v).2.2.2.1, (B.st i q v).2.2.2.2.1, (B.st i q v).2.2.2.2.2.1, (B.st i q v).2.2.2.2.2.2.1, (B.st i q v).2.2.2.2.2.2.2.1, (B.st i q v).2.2.2.2.2.2.2.2)) j 2 4).wr (dn j) 3 = (((dB.st (B.1, B.2.1, r', B.2.2.2.1, B.2.2.2.2.1, B.2.2.2.2.2.1, B.2.2.2.2.2.2.1, B.2.2.2.2.2.2.2.1, B.2.2.2.2.2.2.2.2)) j 2 4).wr (dn j) 3).st i q v := fun r' => by
      have : (((B.st i q v).1, (B.st i q v).2.1, r', (B.st i q v).2.2.2.1, (B.st i q v).2.2.2.2.1, (B.st i q v).2.2.2.2.2.1, (B.st i q v).2.2.2.2.2.2.1, (B.st i q v).2.2.2.2.2.2.2.1, (B.st i q v).2.2.2.2.2.2.2.2) : dB) = (dB.st (B.1, B.2.1, r', B.2.2.2.1, B.2.2.2.2.1, B.2.2.2.2.2.1, B.2.2.2.2.2.2.1, B.2.2.2.2.2.2.2.1, B.2.2.2.2.2.2.2.2)) i q v := rfl
      rw [this, c_st (i := i) (q := q) (v := v) (by omega)]
      rfl
    exact key _
end F12a
section F12b
variable {P : dP} {B : dB} {i : Nat} {v : Int32}
theorem c_as {j : Nat} : (B.st i 1 v).as j = (B.as j).st i 1 v := by
  unfold dB.as
  rw [c_st (i := i) (q := 1) (v := v) (by omega), c_st (i := i) (q := 1) (v := v) (by omega), c_st (i := i) (q := 1) (v := v) (by omega)]
theorem c_wo {j : Nat} : dWo (B.st i 1 v) j = (dWo B j).st i 1 v := by
  unfold dWo
  rw [c_ite, dB.st_ne (Or.inr (by omega))]
  have : (B.st i 1 v).wt j = (B.wt j).st i 1 v := by
    unfold dB.wt
    rw [c_st (i := i) (q := 1) (v := v) (by omega)]; rfl
  rw [this]
theorem c_ask {j : Nat} {off : Bool} : dAsk P (B.st i 1 v) j off = (dAsk P B j off).st i 1 v := by
  unfold dAsk
  have e1 : ((B.as j).st i 1 v).out j = ((B.as j).out j).st i 1 v := by
    unfold dB.out
    rw [c_st (i := i) (q := 1) (v := v) (by omega)]; rfl
  have e2 : ((B.as j).st i 1 v).on j ↔ (B.as j).on j := by
    unfold dB.on
    rw [dB.st_ne (Or.inr (by omega))]
  have e3 : ((B.as j).st i 1 v).1 j 2 = (B.as j).1 j 2 := dB.st_ne (Or.inr (by omega))
  rw [c_as]
  by_cases c0 : off = false
  · rw [if_pos c0, if_pos c0, c_wo]
  · rw [if_neg c0, if_neg c0]
    by_cases c1 : (B.as j).1 j 2 = 1
    · rw [if_pos c1, if_pos (e3.trans c1), e1]
    · rw [if_neg c1, if_neg (fun z => c1 (e3.symm.trans z))]
      by_cases c : (B.as j).on j
      · rw [if_pos c, if_pos (e2.mpr c), c_un (by omega)]
      · rw [if_neg c, if_neg fun z => c (e2.mp z)]
theorem c_ca1 {t : Nat} : dCA1 (B.st i 1 v) t = (dCA1 B t).st i 1 v := by
  unfold dCA1
  have e : ((B.st i 1 v).st t 11 (-2)).wt t = ((B.st t 11 (-2)).wt t).st i 1 v := by
    rw [c_st (i := i) (q := 1) (v := v) (by omega)]
    unfold dB.wt
    rw [c_st (i := i) (q := 1) (v := v) (by omega)]; rfl
  rw [dB.st_ne (Or.inr (by omega)), dB.st_ne (Or.inr (by omega)), dB.st_ne (Or.inr (by omega)), e, c_st (q := 1) (r := 11) (by omega), c_st (q := 1) (r := 10) (by omega), c_wr, c_ite, c_ite]
  rfl
theorem c_gd {j : Nat} : (B.st i 1 v).gd P j ↔ B.gd P j := by
  unfold dB.gd
  rw [dB.st_ne (Or.inr (by omega)), dB.st_ne (Or.inr (by omega))]
theorem c_stp : dStp P (B.st i 1 v) = ((dStp P B).1, (dStp P B).2.st i 1 v) := by
  have e0 : (B.st i 1 v).2.2.2.2.2.2.1 = B.2.2.2.2.2.2.1 := rfl
  have e1 : (B.st i 1 v).2.2.2.2.2.2.2.1 = B.2.2.2.2.2.2.2.1 := rfl
  unfold dStp
  rw [e0, e1]
  by_cases c0 : P.2.2.2 11 B.2.2.2.2.2.2.1 = 0
  · rw [if_pos c0, if_pos c0, c_ask]
  rw [if_neg c0, if_neg c0]
  by_cases c1 : P.2.2.2 11 B.2.2.2.2.2.2.1 = 1
  · rw [if_pos c1, if_pos c1, c_ask]
  rw [if_neg c1, if_neg c1]
  by_cases c2 : P.2.2.2 11 B.2.2.2.2.2.2.1 = 2
  · rw [if_pos c2, if_pos c2]
    by_cases c3 : B.2.2.2.2.2.2.2.1 < (P.2.2.2 13 B.2.2.2.2.2.2.1).toNatClampNeg
    · rw [if_pos c3, if_pos c3]; rfl
    · rw [if_neg c3, if_neg c3]
  rw [if_neg c2, if_neg c2]
  by_cases c4 : B.gd P (P.2.2.2 12 B.2.2.2.2.2.2.1).toNatClampNeg
  · rw [if_pos c4, if_pos (c_gd.mpr c4)]
  rw [if_neg c4, if_neg (fun z => c4 (c_gd.mp z))]
  by_cases c5 : B.2.2.2.2.2.2.2.1 + 1 < (P.2.2.2 13 B.2.2.2.2.2.2.1).toNatClampNeg
  · rw [if_pos c5, if_pos c5]; rfl
  rw [if_neg c5, if_neg c5]
  show (false, dUn P.1 (dAll P.1) ((dFail (B.1, B.2.1, B.2.2.1, B.2.2.2.1, B.2.2.2.2.1, B.2.2.2.2.2.1, B.2.2.2.2.2.2.1, B.2.2.2.2.2.2.2.1 + 1, B.2.2.2.2.2.2.2.2)).st i 1 v)) = _
  rw [c_un (by omega)]
theorem c_sq : ∀ (k : Nat) (B : dB), dSq P k (B.st i 1 v) = (dSq P k B).st i 1 v := by
  intro k
  induction k with
  | zero => intro B; rfl
  | succ k ih =>
    intro B
    have e0 : (B.st i 1 v).2.2.2.2.2.2.1 = B.2.2.2.2.2.2.1 := rfl
    have e1 : (B.st i 1 v).2.2.2.2.2.1 = B.2.2.2.2.2.1 := rfl
    unfold dSq
    rw [e0, e1]
    by_cases c : B.2.2.2.2.2.1 = 1
    · rw [if_pos c, if_pos c]
      by_cases c1 : B.2.2.2.2.2.2.1 < P.2.2.1
      · rw [if_pos c1, if_pos c1, c_stp]
        cases e : (dStp P B).1 with
        | false =>
          have e' : dStp P B = (false, (dStp P B).2) := by rw [← e]
          rw [e']
        | true =>
          have e' : dStp P B = (true, (dStp P B).2) := by rw [← e]
          rw [e']
          dsimp only
          rw [← ih]
          rfl
      · rw [if_neg c1, if_neg c1, ← ih]
        rfl
    · rw [if_neg c, if_neg c]
theorem c_gm : ∀ t, dGm P (B.st i 1 v) t = dGm P B t := by
  intro t
  induction t with
  | zero => rfl
  | succ t ih =>
    unfold dGm
    rw [ih]
    by_cases c : B.gd P t
    · rw [if_pos c, if_pos (c_gd.mpr c)]
    · rw [if_neg c, if_neg (fun z => c (c_gd.mp z))]
theorem c_rS {G : Int32} : ∀ (l : List Nat) (B : dB), dRs P G l (B.st i 1 v) = (dRs P G l B).st i 1 v := by
  intro l
  induction l with
  | nil => intro B; rfl
  | cons j l ih =>
    intro B
    unfold dRs
    have : (B.st i 1 v).rs j = (B.rs j).st i 1 v := by
      unfold dB.rs
      have : (((B.st i 1 v).1, dDrop (B.st i 1 v).2.1 j, (B.st i 1 v).2.2.1, (B.st i 1 v).2.2.2.1, (B.st i 1 v).2.2.2.2.1, (B.st i 1 v).2.2.2.2.2.1, (B.st i 1 v).2.2.2.2.2.2.1, (B.st i 1 v).2.2.2.2.2.2.2.1, (B.st i 1 v).2.2.2.2.2.2.2.2) : dB) = (dB.st (B.1, dDrop B.2.1 j, B.2.2.1, B.2.2.2.1, B.2.2.2.2.1, B.2.2.2.2.2.1, B.2.2.2.2.2.2.1, B.2.2.2.2.2.2.2.1, B.2.2.2.2.2.2.2.2)) i 1 v := rfl
      rw [this, c_st (i := i) (q := 1) (v := v) (by omega), c_st (i := i) (q := 1) (v := v) (by omega)]
      rfl
    rw [this, ← c_ite, ih]
theorem c_br : dBR P (B.st i 1 v) = (dBR P B).st i 1 v := by
  unfold dBR
  rw [c_gm, c_rS]
  rfl
theorem c_off {t : Nat} : dOff P (B.st i 1 v) t = (dOff P B t).st i 1 v := by
  unfold dOff
  rw [dB.st_ne (Or.inr (by omega)), dB.st_ne (Or.inr (by omega)), c_st (i := i) (q := 1) (v := v) (by omega), c_wr, c_st (i := i) (q := 1) (v := v) (by omega), c_ite, c_ite]
  rfl
theorem c_va {t : Nat} : dVa P (B.st i 1 v) t = (dVa P B t).st i 1 v := by
  unfold dVa
  have eu : dUp P (B.st i 1 v) t = dUp P B t := by
    unfold dUp
    rw [dB.st_ne (Or.inr (by omega))]
  rw [eu, dB.st_ne (Or.inr (by omega)), dB.st_ne (Or.inr (by omega)), dB.st_ne (Or.inr (by omega))]
  simp only [c_ite, c_st (show (1 : Nat) ≠ 3 by omega), c_st (show (1 : Nat) ≠ 2 by omega), c_wr, c_off]
theorem c_vo {t : Nat} : dVo P (B.st i 1 v) t = (dVo P B t).st i 1 v := by
  unfold dVo
  rw [c_va, c_st (i := i) (q := 1) (v := v) (by omega), dB.st_ne (Or.inr (by omega)), dB.st_ne (Or.inr (by omega))]
theorem c_its {q r : Nat} (hq : q = 1 ∨ q = 6) : dIts P (B.st i q v) r = dIts P B r := by
  have eon : (B.st i q v).on r ↔ B.on r := by
    unfold dB.on
    rw [dB.st_ne (Or.inr (by omega))]
  have e1 : dOwn P (B.st i q v) r = dOwn P B r := by
    unfold dOwn
    by_cases c : B.on r
    · rw [if_pos c, if_pos (eon.mpr c), dB.st_ne (Or.inr (by omega)), dB.st_ne (Or.inr (by omega)), dB.st_ne (Or.inr (by omega))]
    · rw [if_neg c, if_neg (fun z => c (eon.mp z)), dB.st_ne (Or.inr (by omega))]
  unfold dIts
  rw [e1]
  congr 1
  refine dSu_c _ fun o _ _ => ?_
  unfold dCh
  rw [dB.st_ne (Or.inr (by omega))]
theorem c_dr2 {r : Nat} (hr : r ≠ i) {q : Nat} (hq : q = 1 ∨ q = 6) : dDr2 P (B.st i q v) r = (dDr2 P B r).st i q v := by
  unfold dDr2 dPut
  rw [c_its hq, dB.st_ne (Or.inl hr), dB.st_cm (i := i) (j := r) (r := 5) (Or.inl (fun e => hr e.symm)), dB.st_cm (i := i) (j := r) (r := 6) (Or.inl (fun e => hr e.symm))]
  rfl
theorem c_dr2i : dDr2 P (B.st i 1 v) i = ((dDr2 P B i).st i 1 v).st i 6 (if (dDr2 P B i).1 i 5 ≤ v then 0 else 1) := by
  have e5 : (dDr2 P B i).1 i 5 = dIts P B i := by
    show (dPut B i (dIts P B i)).1 i 5 = _
    rw [dPut_f, if_pos ⟨rfl, rfl⟩]
  rw [e5]
  unfold dDr2 dPut
  rw [c_its (Or.inl rfl), dB.st_eq, c_st (i := i) (q := 1) (v := v) (by omega), c_st (i := i) (q := 1) (v := v) (by omega)]
  have e : ∀ (X : dB) (t : Int32) (a b : Int32), ((((((X.st i 5 (dIts P B i)).st i 6 a).st i 1 v)).1, ((((X.st i 5 (dIts P B i)).st i 6 a).st i 1 v)).2.1, ((((X.st i 5 (dIts P B i)).st i 6 a).st i 1 v)).2.2.1, ((((X.st i 5 (dIts P B i)).st i 6 a).st i 1 v)).2.2.2.1, t, ((((X.st i 5 (dIts P B i)).st i 6 a).st i 1 v)).2.2.2.2.2.1, ((((X.st i 5 (dIts P B i)).st i 6 a).st i 1 v)).2.2.2.2.2.2.1, ((((X.st i 5 (dIts P B i)).st i 6 a).st i 1 v)).2.2.2.2.2.2.2.1, ((((X.st i 5 (dIts P B i)).st i 6 a).st i 1 v)).2.2.2.2.2.2.2.2) : dB) = ((dB.st ((((X.st i 5 (dIts P B i)).st i 6 b)).1, (((X.st i 5 (dIts P B i)).st i 6 b)).2.1, (((X.st i 5 (dIts P B i)).st i 6 b)).2.2.1, (((X.st i 5 (dIts P B i)).st i 6 b)).2.2.2.1, t, (((X.st i 5 (dIts P B i)).st i 6 b)).2.2.2.2.2.1, (((X.st i 5 (dIts P B i)).st i 6 b)).2.2.2.2.2.2.1, (((X.st i 5 (dIts P B i)).st i 6 b)).2.2.2.2.2.2.2.1, (((X.st i 5 (dIts P B i)).st i 6 b)).2.2.2.2.2.2.2.2)) i 1 v).st i 6 a := fun X t a b => by
    refine dB.ext' (funext fun j => funext fun k => ?_) rfl rfl rfl rfl rfl rfl rfl rfl
    show (if j = i ∧ k = 1 then v else if j = i ∧ k = 6 then a else (X.st i 5 (dIts P B i)).1 j k) = (if j = i ∧ k = 6 then a else if j = i ∧ k = 1 then v else if j = i ∧ k = 6 then b else (X.st i 5 (dIts P B i)).1 j k)
    by_cases c1 : j = i ∧ k = 1
    · rw [if_pos c1, if_neg (by omega), if_pos c1]
    · rw [if_neg c1, if_neg c1]
      by_cases c6 : j = i ∧ k = 6
      · rw [if_pos c6, if_pos c6]
      · rw [if_neg c6, if_neg c6, if_neg c6]
  exact e B _ _ _
theorem dDr2_5 {r j : Nat} (hj : j ≠ r) {q : Nat} : (dDr2 P B r).1 j q = B.1 j q := (dB.st_ne (Or.inl hj)).trans (dB.st_ne (Or.inl hj))
theorem c_md2 (hi : i < P.1) : dMD2 P (B.st i 1 v) = ((dMD2 P B).st i 1 v).st i 6 (if (dMD2 P B).1 i 5 ≤ v then 0 else 1) ∧ (dMD2 P B).1 i 6 = if (dMD2 P B).1 i 5 ≤ B.1 i 1 then 0 else 1 := by
  unfold dMD2
  have e0 : (((B.st i 1 v).1, (B.st i 1 v).2.1, (B.st i 1 v).2.2.1, (B.st i 1 v).2.2.2.1, 0, (B.st i 1 v).2.2.2.2.2.1, (B.st i 1 v).2.2.2.2.2.2.1, (B.st i 1 v).2.2.2.2.2.2.2.1, (B.st i 1 v).2.2.2.2.2.2.2.2) : dB) = (dB.st (B.1, B.2.1, B.2.2.1, B.2.2.2.1, 0, B.2.2.2.2.2.1, B.2.2.2.2.2.2.1, B.2.2.2.2.2.2.2.1, B.2.2.2.2.2.2.2.2)) i 1 v := rfl
  rw [e0]
  have eb : B.1 i 1 = ((B.1, B.2.1, B.2.2.1, B.2.2.2.1, 0, B.2.2.2.2.2.1, B.2.2.2.2.2.2.1, B.2.2.2.2.2.2.2.1, B.2.2.2.2.2.2.2.2) : dB).1 i 1 := rfl
  rw [eb]
  obtain ⟨B, hB'⟩ : ∃ X : dB, ((B.1, B.2.1, B.2.2.1, B.2.2.2.1, 0, B.2.2.2.2.2.1, B.2.2.2.2.2.2.1, B.2.2.2.2.2.2.2.1, B.2.2.2.2.2.2.2.2) : dB) = X := ⟨_, rfl⟩
  rw [hB']
  have key : ∀ t, t ≤ P.1 → (t ≤ P.1 - 1 - i → dFo (fun B t => dDr2 P B (P.1 - 1 - t)) t (B.st i 1 v) = (dFo (fun B t => dDr2 P B (P.1 - 1 - t)) t B).st i 1 v) ∧ (P.1 - 1 - i < t → dFo (fun B t => dDr2 P B (P.1 - 1 - t)) t (B.st i 1 v) = ((dFo (fun B t => dDr2 P B (P.1 - 1 - t)) t B).st i 1 v).st i 6 (if (dFo (fun B t => dDr2 P B (P.1 - 1 - t)) t B).1 i 5 ≤ v then 0 else 1) ∧ (dFo (fun B t => dDr2 P B (P.1 - 1 - t)) t B).1 i 6 = if (dFo (fun B t => dDr2 P B (P.1 - 1 - t)) t B).1 i 5 ≤ B.1 i 1 then 0 else 1) ∧ (dFo (fun B t => dDr2 P B (P.1 - 1 - t)) t B).1 i 1 = B.1 i 1 := by
    intro t
    induction t with
    | zero => intro _; exact ⟨fun _ => rfl, fun h => absurd h (by omega), rfl⟩
    | succ t ih =>
      intro ht
      obtain ⟨h1, h2, h3⟩ := ih (by omega)
      refine ⟨fun hle => ?_, fun hlt => ?_, ?_⟩
      · show dDr2 P (dFo (fun B t => dDr2 P B (P.1 - 1 - t)) t (B.st i 1 v)) (P.1 - 1 - t) = (dDr2 P (dFo (fun B t => dDr2 P B (P.1 - 1 - t)) t B) (P.1 - 1 - t)).st i 1 v
        rw [h1 (by omega), c_dr2 (by omega) (Or.inl rfl)]
      · show dDr2 P (dFo (fun B t => dDr2 P B (P.1 - 1 - t)) t (B.st i 1 v)) (P.1 - 1 - t) = ((dDr2 P (dFo (fun B t => dDr2 P B (P.1 - 1 - t)) t B) (P.1 - 1 - t)).st i 1 v).st i 6 (if (dDr2 P (dFo (fun B t => dDr2 P B (P.1 - 1 - t)) t B) (P.1 - 1 - t)).1 i 5 ≤ v then 0 else 1) ∧ (dDr2 P (dFo (fun B t => dDr2 P B (P.1 - 1 - t)) t B) (P.1 - 1 - t)).1 i 6 = if (dDr2 P (dFo (fun B t => dDr2 P B (P.1 - 1 - t)) t B) (P.1 - 1 - t)).1 i 5 ≤ B.1 i 1 then 0 else 1
        by_cases c : t = P.1 - 1 - i
        · rw [h1 (by omega), show P.1 - 1 - t = i by omega, c_dr2i]
          refine ⟨rfl, ?_⟩
          have e5 : ∀ (X : dB) (x : Int32), (dPut X i x).1 i 5 = x := fun X x => by rw [dPut_f, if_pos ⟨rfl, rfl⟩]
          have e6 : ∀ (X : dB) (x : Int32), (dPut X i x).1 i 6 = if x ≤ X.1 i 1 then 0 else 1 := fun X x => by rw [dPut_f, if_neg (by omega), if_pos ⟨rfl, rfl⟩]
          show (dPut _ i _).1 i 6 = if (dPut _ i _).1 i 5 ≤ _ then 0 else 1
          rw [e6, e5, h3]
        · obtain ⟨g1, g2⟩ := h2 (by omega)
          have hne : P.1 - 1 - t ≠ i := by omega
          rw [g1, c_dr2 hne (Or.inr rfl), c_dr2 hne (Or.inl rfl), dDr2_5 (fun e => hne e.symm), dDr2_5 (fun e => hne e.symm)]
          exact ⟨rfl, g2⟩
      · show (dDr2 P (dFo (fun B t => dDr2 P B (P.1 - 1 - t)) t B) (P.1 - 1 - t)).1 i 1 = B.1 i 1
        rw [dDr2_ne (by omega), h3]
  obtain ⟨_, h2, _⟩ := key P.1 (Nat.le_refl _)
  exact h2 (by omega)
end F12b
end
section
def dPre (P : dP) (B : dB) : dB := dMV P (dBR P (dSq P 25 (dCA P (B.1, B.2.1, B.2.2.1, B.2.2.2.1 + 1, B.2.2.2.2.1, B.2.2.2.2.2.1, B.2.2.2.2.2.2.1, B.2.2.2.2.2.2.2.1, B.2.2.2.2.2.2.2.2))))
def dPost (P : dP) (B : dB) : dB := dLF (if (dTL P B).2.2.2.2.1 ≤ P.2.2.2 14 6 then dTL P B else dTA P (dTL P B))
section F13
variable {P : dP} {B : dB} {i q : Nat} {v : Int32}
theorem dPass_pp : dPass P B = dPost P (dMD P (dPre P B)) := rfl
theorem c_pre : dPre P (B.st i 1 v) = (dPre P B).st i 1 v := by
  unfold dPre
  have e0 : (((B.st i 1 v).1, (B.st i 1 v).2.1, (B.st i 1 v).2.2.1, (B.st i 1 v).2.2.2.1 + 1, (B.st i 1 v).2.2.2.2.1, (B.st i 1 v).2.2.2.2.2.1, (B.st i 1 v).2.2.2.2.2.2.1, (B.st i 1 v).2.2.2.2.2.2.2.1, (B.st i 1 v).2.2.2.2.2.2.2.2) : dB) = (dB.st (B.1, B.2.1, B.2.2.1, B.2.2.2.1 + 1, B.2.2.2.2.1, B.2.2.2.2.2.1, B.2.2.2.2.2.2.1, B.2.2.2.2.2.2.2.1, B.2.2.2.2.2.2.2.2)) i 1 v := rfl
  rw [e0]
  unfold dCA
  rw [c_fo (fun B t => c_ca1), c_sq, c_br]
  unfold dMV
  rw [c_fo (fun B t => c_vo)]
theorem c_post (h : q = 1 ∨ q = 5 ∨ q = 6) : dPost P (B.st i q v) = (dPost P B).st i q v := by
  unfold dPost
  rw [c_tl (by omega), c_ta (by omega), ← c_ite, c_lf (by omega)]
  rfl
theorem dPost_f (h : q = 1 ∨ q = 5 ∨ q = 6) : (dPost P B).1 i q = B.1 i q := by
  have e := c_post (P := P) (B := B) (i := i) (v := B.1 i q) h
  rw [dB.st_id rfl] at e
  rw [e, dB.st_eq]
theorem dPre_f : (dPre P B).1 i 1 = B.1 i 1 := by
  have e := c_pre (P := P) (B := B) (i := i) (v := B.1 i 1)
  rw [dB.st_id rfl] at e
  rw [e, dB.st_eq]
/-- a tick under another limit of one rail: alike, but for the rail's limit and whether it is over -/
theorem dPass_lim (hV : dWV P) (hn : P.1 ≤ 12) (hi : i < P.1) : dPass P (B.st i 1 v) = ((dPass P B).st i 1 v).st i 6 (if (dPass P B).1 i 5 ≤ v then 0 else 1) ∧ (dPass P B).1 i 6 = if (dPass P B).1 i 5 ≤ B.1 i 1 then 0 else 1 := by
  rw [dPass_pp, dPass_pp, c_pre, dMD_eq hV hn, dMD_eq hV hn]
  obtain ⟨g1, g2⟩ := c_md2 (P := P) (B := dPre P B) (v := v) hi
  rw [g1, c_post (by omega), c_post (by omega), dPost_f (by omega), dPost_f (by omega)]
  rw [dPre_f] at g2
  exact ⟨rfl, g2⟩
theorem dPass_1 (hV : dWV P) (hn : P.1 ≤ 12) (hi : i < P.1) : (dPass P B).1 i 1 = B.1 i 1 := by
  have e := (dPass_lim (B := B) (v := B.1 i 1) hV hn hi).1
  rw [dB.st_id rfl] at e
  rw [e, dB.st_ne (Or.inr (by omega)), dB.st_eq]
theorem dPn_1 (hV : dWV P) (hn : P.1 ≤ 12) (hi : i < P.1) : ∀ t, (dPn P t B).1 i 1 = B.1 i 1 := by
  intro t
  induction t with
  | zero => rfl
  | succ t ih => exact (dPass_1 hV hn hi).trans ih
/-- a run without a limit goes as one under it does, until it is passed -/
theorem dRun {L1 L2 : Int32} (hV : dWV P) (hn : P.1 ≤ 12) (hi : i < P.1) (hL : ∀ x : Int32, x ≤ L1) : ∀ t, (∀ s, 1 ≤ s → s ≤ t → (dPn P s (B.st i 1 L2)).1 i 5 ≤ L2) → dPn P t (B.st i 1 L1) = (dPn P t (B.st i 1 L2)).st i 1 L1 := by
  intro t
  induction t with
  | zero =>
    intro _
    exact dB.st_st'.symm
  | succ t ih =>
    intro h
    have e1 := ih fun s h1 h2 => h s h1 (by omega)
    have e2 := h (t + 1) (by omega) (Nat.le_refl _)
    show dPass P (dPn P t (B.st i 1 L1)) = (dPass P (dPn P t (B.st i 1 L2))).st i 1 L1
    obtain ⟨g1, g2⟩ := dPass_lim (B := dPn P t (B.st i 1 L2)) (v := L1) hV hn hi
    rw [dPn_1 hV hn hi, dB.st_eq] at g2
    have e2' : (dPass P (dPn P t (B.st i 1 L2))).1 i 5 ≤ L2 := e2
    rw [if_pos e2'] at g2
    rw [e1, g1, if_pos (hL _)]
    refine dB.st_id ?_
    rw [dB.st_ne (Or.inr (by omega)), g2]
theorem dRun5 {L1 L2 : Int32} (hV : dWV P) (hn : P.1 ≤ 12) (hi : i < P.1) (hL : ∀ x : Int32, x ≤ L1) (t : Nat) (h : ∀ s, 1 ≤ s → s ≤ t → (dPn P s (B.st i 1 L2)).1 i 5 ≤ L2) : (dPn P (t + 1) (B.st i 1 L1)).1 i 5 = (dPn P (t + 1) (B.st i 1 L2)).1 i 5 := by
  have e1 := dRun hV hn hi hL t h
  show (dPass P (dPn P t (B.st i 1 L1))).1 i 5 = (dPass P (dPn P t (B.st i 1 L2))).1 i 5
  rw [e1, (dPass_lim (B := dPn P t (B.st i 1 L2)) (v := L1) hV hn hi).1, dB.st_ne (Or.inr (by omega)), dB.st_ne (Or.inr (by omega))]
theorem dMx_c {g g' : Nat → Int32} {a : Int32} : ∀ n, (∀ s, 1 ≤ s → s ≤ n → g s = g' s) → dMx g a n = dMx g' a n := by
  intro n
  induction n with
  | zero => intro _; rfl
  | succ n ih =>
    intro h
    show dGx (dMx g a n) (g (n + 1)) = dGx (dMx g' a n) (g' (n + 1))
    rw [ih fun s h1 h2 => h s h1 (by omega), h (n + 1) (by omega) (Nat.le_refl _)]
theorem dGx_le {a x L : Int32} : dGx a x ≤ L ↔ a ≤ L ∧ x ≤ L := by
  unfold dGx
  by_cases c : a < x
  · rw [if_pos c]
    exact ⟨fun h => ⟨Int32.le_trans (Int32.le_of_lt c) h, h⟩, fun h => h.2⟩
  · rw [if_neg c]
    exact ⟨fun h => ⟨h, Int32.le_trans (Int32.not_lt.mp c) h⟩, fun h => h.1⟩
theorem dMx_le {g : Nat → Int32} {a L : Int32} : ∀ n, dMx g a n ≤ L ↔ a ≤ L ∧ ∀ s, 1 ≤ s → s ≤ n → g s ≤ L := by
  intro n
  induction n with
  | zero => exact ⟨fun h => ⟨h, fun s h1 h2 => absurd h1 (by omega)⟩, fun h => h.1⟩
  | succ n ih =>
    show dGx (dMx g a n) (g (n + 1)) ≤ L ↔ _
    rw [dGx_le, ih]
    constructor
    · intro ⟨⟨h1, h2⟩, h3⟩
      refine ⟨h1, fun s s1 s2 => ?_⟩
      by_cases e : s = n + 1
      · rw [e]; exact h3
      · exact h2 s s1 (by omega)
    · intro ⟨h1, h2⟩
      exact ⟨⟨h1, fun s s1 s2 => h2 s s1 (by omega)⟩, h2 (n + 1) (by omega) (Nat.le_refl _)⟩
def dOv (g : Nat → Int32) : Nat → Int32
  | 0 => 0
  | t + 1 => if dOv g t = 0 then (if g (t + 1) = 1 then 1 else 0) else 1
theorem dOv_0 {g : Nat → Int32} : ∀ n, dOv g n = 0 ↔ ∀ s, 1 ≤ s → s ≤ n → g s ≠ 1 := by
  intro n
  induction n with
  | zero => exact ⟨fun _ s h1 h2 => absurd h1 (by omega), fun _ => rfl⟩
  | succ n ih =>
    unfold dOv
    by_cases c : dOv g n = 0
    · rw [if_pos c]
      have h := ih.mp c
      by_cases c2 : g (n + 1) = 1
      · rw [if_pos c2]
        exact ⟨fun z => absurd z (by decide), fun z => absurd c2 (z (n + 1) (by omega) (Nat.le_refl _))⟩
      · rw [if_neg c2]
        refine ⟨fun _ s s1 s2 => ?_, fun _ => rfl⟩
        by_cases e : s = n + 1
        · rw [e]; exact c2
        · exact h s s1 (by omega)
    · rw [if_neg c]
      exact ⟨fun z => absurd z (by decide), fun z => absurd (ih.mpr fun s s1 s2 => z s s1 (by omega)) c⟩
end F13
section F13b
variable {σ σ' μ μ' μ1 μ2 : pxS} {P : dP} {k p f : Nat} {B B' : dB} {I : Option dB} {H : List dB}
theorem dS_leastLimit (h : dI σ μ P p B I H f) (v : Int32) : dSt (F_PR_leastLimit σ v) (F_Mo_leastLimit μ v) := by
  unfold F_PR_leastLimit F_Mo_leastLimit
  have h := dI_th (v := 0) h
  rw [px_l]
  generalize px_up μ (0, 0, 0) 0 0 = μ at h
  obtain ⟨N, hN⟩ : ∃ N : Nat, N = 100 := ⟨_, rfl⟩
  have hn := h.W.wp.n
  have hp := h.pp
  rcases dIr h v with ⟨i, hi, rfl, e1, e2⟩ | ⟨_, e1, e2⟩
  · rw [e1, e2, px_b1_s, px_b1_s, if_neg (show ¬ (1 : Int32) = 0 by decide), if_neg (show ¬ (1 : Int32) = 0 by decide), dSt, show 13 * dn i + 7 = dn (13 * i + 7) from ix i 7]
    have ok1 : dOK P 9999 (B.st i 1 2147483647) := ⟨dSV_st h.ok.1 (by omega), dK_st h.ok.2.1 (by simp), h.ok.2.2⟩
    have ok2 : dOK P 9999 (B.st i 1 99999) := ⟨dSV_st h.ok.1 (by omega), dK_st h.ok.2.1 (by simp), h.ok.2.2⟩
    refine dw_T (dT_cp h.C (show 2 ≠ 1 by omega) h.pp h.W.wp h.ok.1.b h.ok.2.1) fun σ1 k1 f1 => dw_gi (by omega) (by omega) ?_
    rw [dn_nat (show i < 2147483648 by omega)]
    refine dw_st k1 fun σ2 k2 f2 => ?_
    rw [dw_b1]
    refine dw_mono (dT_loop (n := N) (fun t τ => (dMx (fun t => (dPn P t (B.st i 1 2147483647)).1 i 5) 1 t, dn t, τ)) (fun τ => (dMx (fun t => (dPn P t (B.st i 1 2147483647)).1 i 5) 1 N, τ)) k2 h.W h.pp ok1 (by omega) (fun t τ ht hτ => ⟨_, by
      show PR_leastLimit_n43 τ i _ (dn t) = _
      unfold PR_leastLimit_n43
      rw [if_neg (by rw [show (100 : Int32) = dn 100 from rfl, dn_le (by omega) (by omega)]; omega)], fun τ1 g1 => by
      show some _ = some _
      rw [g1.f i hi 5 (by omega), dn_suc]; rfl⟩) (fun τ hτ => by
      show PR_leastLimit_n43 τ i _ (dn N) = _
      unfold PR_leastLimit_n43
      rw [if_pos (by rw [hN]; decide)])) fun e ⟨τ, he, k3, f3⟩ => ?_
    subst he
    have ff := dF_trans f1 (dF_trans f2 f3)
    -- the reference
    have ref : ∀ (Q : Int32 × pxS → Prop), (∀ μ3, dGs μ μ3 → (∀ x, x < 308 → μ3 (1, 28, 0) x = μ (1, 28, 0) x) → Q ((if dOv (fun t => (dPn P t (B.st i 1 99999)).1 i 6) N = 0 then dMx (fun t => (dPn P t (B.st i 1 99999)).1 i 5) 1 N else -2), μ3)) → dw (px_b1 (F_Mo_copies_28_29 μ 0 0) fun σ3 =>
        px_gd (dn (13 * i + 7)) 308 (px_l (px_up σ3 (1, 28, 0) (dn (13 * i + 7)).toNatClampNeg 99999) fun σ5 =>
        px_b1 (px_it (Mo_leastLimit_L49 (dn i)) px_N (1, 0, 0, σ5)) fun e13 =>
        px_b1 (F_Mo_copies_29_28 e13.2.2 0 0) fun σ14 =>
        (if e13.2.1 = 0 then some (e13.1, σ14) else some ((-2), σ14)))) Q := fun Q hQ => by
      rw [dw_b1]
      refine dw_mono (dU_aside h.M hn) fun μ1 ⟨m1, a1, _⟩ => ?_
      refine du_st (1, 7) m1 hn hi (by decide) rfl fun μ2 m2 g2 => ?_
      rw [dw_b1]
      refine dw_mono (dU_loop (n := N) (fun t τ => (dMx (fun t => (dPn P t (B.st i 1 99999)).1 i 5) 1 t, dOv (fun t => (dPn P t (B.st i 1 99999)).1 i 6) t, dn t, τ)) (fun τ => (dMx (fun t => (dPn P t (B.st i 1 99999)).1 i 5) 1 N, dOv (fun t => (dPn P t (B.st i 1 99999)).1 i 6) N, τ)) m2 h.W ok2 (by omega) (fun t τ ht hτ => ⟨_, by
        show Mo_leastLimit_n49 τ (dn i) _ _ (dn t) = _
        unfold Mo_leastLimit_n49
        rw [if_neg (by rw [show (100 : Int32) = dn 100 from rfl, dn_le (by omega) (by omega)]; omega)], fun τ1 g1 => by
        dsimp only
        rw [show 13 * dn i + 2 = dn (13 * i + 2) from ix i 2, show 13 * dn i + 3 = dn (13 * i + 3) from ix i 3, px_gi (show 13 * i + 2 < 308 by omega) (by omega), dgreater, px_b1_s, dn_nat (show 13 * i + 2 < 2147483648 by omega), show τ1 (1, 28, 0) (13 * i + 2) = (dPn P (t + 1) (B.st i 1 99999)).1 i 5 from g1.s.f i hi (5, 2) (by decide), px_gi (show 13 * i + 3 < 308 by omega) (by omega), dn_nat (show 13 * i + 3 < 2147483648 by omega), show τ1 (1, 28, 0) (13 * i + 3) = (dPn P (t + 1) (B.st i 1 99999)).1 i 6 from g1.s.f i hi (6, 3) (by decide)]
        unfold Mo_leastLimit_n95
        show _ = some (Sum.inl (dMx _ 1 (t + 1), dOv _ (t + 1), dn (t + 1), τ1))
        rw [dOv, dn_suc]
        by_cases c : dOv (fun t => (dPn P t (B.st i 1 99999)).1 i 6) t = 0
        · rw [if_pos c, if_pos c]
          by_cases c2 : (dPn P (t + 1) (B.st i 1 99999)).1 i 6 = 1
          · rw [if_pos c2, if_pos c2]; rfl
          · rw [if_neg c2, if_neg c2]; rfl
        · rw [if_neg c, if_neg c]; rfl⟩) (fun τ hτ => by
        show Mo_leastLimit_n49 τ (dn i) _ _ (dn N) = _
        unfold Mo_leastLimit_n49
        rw [if_pos (by rw [hN]; decide)])) fun e ⟨τ', he, m3, g3⟩ => ?_
      subst he
      dsimp only
      rw [dw_b1]
      refine dw_mono (dU_back (dAs_3 a1 (dG3_trans (dG3_of g2) g3))) fun μ3 ⟨b1, b2, _⟩ => ?_
      have := hQ μ3 b1 b2
      by_cases c : dOv (fun t => (dPn P t (B.st i 1 99999)).1 i 6) N = 0
      · rw [if_pos c]
        rw [if_pos c] at this
        exact dw_some.mpr this
      · rw [if_neg c]
        rw [if_neg c] at this
        exact dw_some.mpr this
    have hL : ∀ x : Int32, x ≤ 2147483647 := fun x => by
      rw [Int32.le_iff_toInt_le]
      have := Int32.toInt_lt x
      have e : (2147483647 : Int32).toInt = 2147483647 := by decide
      rw [e]; omega
    have h6 : ∀ s, 1 ≤ s → (dPn P s (B.st i 1 99999)).1 i 6 = if (dPn P s (B.st i 1 99999)).1 i 5 ≤ 99999 then 0 else 1 := fun s hs => by
      obtain ⟨t, rfl⟩ : ∃ t, s = t + 1 := ⟨s - 1, by omega⟩
      have := (dPass_lim (B := dPn P t (B.st i 1 99999)) (v := 0) h.W.V hn hi).2
      rw [dPn_1 h.W.V hn hi, dB.st_eq] at this
      exact this
    -- are all draws within the greatest limit
    obtain ⟨q, q1, q2, q3⟩ := dleast (fun t => ¬ (dPn P (t + 1) (B.st i 1 99999)).1 i 5 ≤ 99999) N
    have q2' : ∀ s, 1 ≤ s → s ≤ q → (dPn P s (B.st i 1 99999)).1 i 5 ≤ 99999 := fun s s1 s2 => by
      have := q2 (s - 1) (by omega)
      rw [show s - 1 + 1 = s by omega] at this
      exact Decidable.not_not.mp this
    by_cases c : q = N
    · rw [c] at q2'
      have eg : dMx (fun t => (dPn P t (B.st i 1 2147483647)).1 i 5) 1 N = dMx (fun t => (dPn P t (B.st i 1 99999)).1 i 5) 1 N := dMx_c N fun s s1 s2 => by
        obtain ⟨t, rfl⟩ : ∃ t, s = t + 1 := ⟨s - 1, by omega⟩
        exact dRun5 h.W.V hn hi hL t fun s h1 h2 => q2' s h1 (by omega)
      have ov : dOv (fun t => (dPn P t (B.st i 1 99999)).1 i 6) N = 0 := (dOv_0 N).mpr fun s s1 s2 => by
        rw [h6 s s1, if_pos (q2' s s1 s2)]; decide
      dsimp only
      rw [eg, if_pos ((dMx_le N).mpr ⟨by decide, q2'⟩)]
      refine dw_some.mpr (ref _ fun μ3 b1 b2 => dSt_try h ?_ ff b1 b2)
      rw [if_pos ov]
    · have q4 := q3.resolve_left c
      have e5 := dRun5 h.W.V hn hi hL q q2'
      have ov : ¬ dOv (fun t => (dPn P t (B.st i 1 99999)).1 i 6) N = 0 := fun z => by
        have := (dOv_0 N).mp z (q + 1) (by omega) (by omega)
        rw [h6 (q + 1) (by omega), if_neg q4] at this
        exact this rfl
      have gr : ¬ dMx (fun t => (dPn P t (B.st i 1 2147483647)).1 i 5) 1 N ≤ 99999 := fun z => by
        have := ((dMx_le N).mp z).2 (q + 1) (by omega) (by omega)
        rw [e5] at this
        exact q4 this
      dsimp only
      rw [if_neg gr]
      refine dw_some.mpr (ref _ fun μ3 b1 b2 => dSt_try h ?_ ff b1 b2)
      rw [if_neg ov]
  · rw [e1, e2]
    exact dSt_2 rfl h
end F13b
end
section
/-! how great a total may be -/
def nS (b : Nat → Nat) : Nat → Nat
  | 0 => 0
  | m + 1 => nS b m + b m
theorem nS_c {b b' : Nat → Nat} : ∀ m, (∀ j, j < m → b j = b' j) → nS b m = nS b' m := by
  intro m
  induction m with
  | zero => intro _; rfl
  | succ m ih =>
    intro h
    show nS b m + b m = nS b' m + b' m
    rw [ih fun j hj => h j (by omega), h m (by omega)]
theorem nS_up {b : Nat → Nat} {p x : Nat} : ∀ m, p < m → nS (fun j => if j = p then b p + x else b j) m = nS b m + x := by
  intro m
  induction m with
  | zero => intro h; exact absurd h (by omega)
  | succ m ih =>
    intro h
    show nS (fun j => if j = p then b p + x else b j) m + (if m = p then b p + x else b m) = nS b m + b m + x
    by_cases c : m = p
    · subst c
      rw [if_pos rfl, nS_c (b := fun j => if j = m then b m + x else b j) (b' := b) m fun j hj => by
        show (if j = m then b m + x else b j) = b j
        rw [if_neg (by omega)]]
      omega
    · rw [if_neg c, ih (by omega)]
      omega
section F14a
variable {P : dP} {B : dB}
def dPot (B : dB) (m N : Nat) : Prop := ∃ a b, B.2.2.2.2.1 = dn a ∧ (∀ j, j < m → B.1 j 5 = dn (b j)) ∧ a + nS b m ≤ N
theorem dOwn_b {i : Nat} (hK : dWK P) (h : dK P B) (hi : i < P.1) : ∃ o, o ≤ 71867 ∧ dOwn P B i = dn o := by
  obtain ⟨v, l, el, hvl, hl1, hl9, ev⟩ := (h.r i hi).v
  obtain ⟨ld, hld, eld⟩ := (h.r i hi).l
  obtain ⟨r, hr, er⟩ := (h.r i hi).r
  obtain ⟨c, hc, ec⟩ := hK.ch i hi
  have h1 : ld * v ≤ 9999 * l := Nat.mul_le_mul hld hvl
  have h2 : ld * v / l ≤ 9999 := by
    apply Nat.div_le_of_le_mul
    rw [Nat.mul_comm l]; exact h1
  have h3 : c * r ≤ 99 * 9999 := Nat.mul_le_mul hc hr
  have h4 : ld * v < 2147483648 := by omega
  unfold dOwn
  rw [el, ev, eld, er, ec, dn_mul, dn_mul, show (16 : Int32) = dn 16 from rfl, dn_div h4 (by omega), dn_div (show c * r < 2147483648 by omega) (by omega)]
  by_cases co : B.on i
  · rw [if_pos co, dn_add]
    exact ⟨ld * v / l + c * r / 16, by omega, rfl⟩
  · rw [if_neg co, Int32.zero_add]
    exact ⟨c * r / 16, by omega, rfl⟩
theorem dPot_s {i N : Nat} (hV : dWV P) (hK : dWK P) (hn : P.1 ≤ 12) (h : dK P B) (hi : i < P.1) (hp : dPot B (i + 1) N) : dPot (dDr P B i) i (N + 71867) := by
  obtain ⟨a, b, e1, e2, e3⟩ := hp
  obtain ⟨o, o1, o2⟩ := dOwn_b hK h hi
  have hs : nS b (i + 1) = nS b i + b i := rfl
  unfold dDr
  rw [dDr_p, o2, e2 i (by omega), dn_add]
  have hA : ∀ j q, (dPut B i (dn (b i + o))).1 j q = if j = i ∧ q = 5 then dn (b i + o) else if j = i ∧ q = 6 then (if dn (b i + o) ≤ B.1 i 1 then 0 else 1) else B.1 j q := fun j q => dPut_f
  unfold dD4
  rcases hV.pr i hi with e | ⟨p, hp, e⟩
  · rw [if_pos (by rw [e]; decide)]
    refine ⟨a + (b i + o), b, ?_, fun j hj => ?_, by omega⟩
    · show B.2.2.2.2.1 + (dPut B i (dn (b i + o))).1 i 5 = _
      rw [hA, if_pos ⟨rfl, rfl⟩, e1, dn_add]
    · show (dPut B i (dn (b i + o))).1 j 5 = _
      rw [hA, if_neg (by omega), if_neg (by omega)]
      exact e2 j (by omega)
  · rw [e, if_neg (dn_nn (by omega)), dn_nat (by omega)]
    refine ⟨a, fun j => if j = p then b p + (b i + o) else b j, e1, fun j hj => ?_, ?_⟩
    · show _ = dn (if j = p then b p + (b i + o) else b j)
      by_cases c : j = p
      · subst c
        rw [dB.st_eq, if_pos rfl, hA, if_neg (by omega), if_neg (by omega), hA, if_pos ⟨rfl, rfl⟩, e2 j (by omega), dn_add]
      · rw [dB.st_ne (Or.inl c), if_neg c, hA, if_neg (by omega), if_neg (by omega)]
        exact e2 j (by omega)
    · rw [nS_up i hp]
      omega
theorem dMD_tot (hV : dWV P) (hK : dWK P) (hn : P.1 ≤ 12) (h : dK P B) : ∃ a, a < 1000000 ∧ (dMD P B).2.2.2.2.1 = dn a := by
  unfold dMD
  have h0 := dFo_inv (g := fun B t => B.st t 5 0) (I := fun t B' => dK P B' ∧ B'.2.2.2.2.1 = 0 ∧ ∀ j, j < t → B'.1 j 5 = dn 0) (n := P.1) (B := (B.1, B.2.1, B.2.2.1, B.2.2.2.1, 0, B.2.2.2.2.2.1, B.2.2.2.2.2.2.1, B.2.2.2.2.2.2.2.1, B.2.2.2.2.2.2.2.2)) ⟨dK_md h rfl rfl, rfl, fun j hj => absurd hj (by omega)⟩ (fun t B' _ h1 => ⟨dK_st h1.1 (by simp), h1.2.1, fun j hj => by
    by_cases e : j = t
    · subst e; exact dB.st_eq
    · rw [dB.st_ne (Or.inl e)]; exact h1.2.2 j (by omega)⟩) P.1 (Nat.le_refl _)
  generalize dFo (fun B t => B.st t 5 0) P.1 (B.1, B.2.1, B.2.2.1, B.2.2.2.1, 0, B.2.2.2.2.2.1, B.2.2.2.2.2.2.1, B.2.2.2.2.2.2.2.1, B.2.2.2.2.2.2.2.2) = B0 at h0
  obtain ⟨k0, t0, f0⟩ := h0
  have z : ∀ m, nS (fun _ => 0) m = 0 := by
    intro m
    induction m with
    | zero => rfl
    | succ m ih => show nS (fun _ => 0) m + 0 = 0; rw [ih]
  have key := dFo_inv (g := fun B t => dDr P B (P.1 - 1 - t)) (I := fun t B' => dK P B' ∧ dPot B' (P.1 - t) (71867 * t)) (n := P.1) (B := B0) ⟨k0, 0, fun _ => 0, t0, fun j hj => f0 j (by omega), by rw [z]; omega⟩ (fun t B' ht h1 => ⟨(dK_dr h1.1).1, by
    have h2 := h1.2
    rw [show P.1 - t = P.1 - 1 - t + 1 by omega] at h2
    rw [show P.1 - (t + 1) = P.1 - 1 - t by omega, show 71867 * (t + 1) = 71867 * t + 71867 by omega]
    exact dPot_s hV hK hn h1.1 (by omega) h2⟩) P.1 (Nat.le_refl _)
  obtain ⟨a, b, e1, _, e3⟩ := key.2
  exact ⟨a, by omega, e1⟩
theorem dTot {T : Nat} (W : dWA P) (ok : dOK P T B) (hT : T < 90000) : ∃ a, a < 1000000 ∧ (dPass P B).2.2.2.2.1 = dn a := by
  have hn := W.wp.n
  obtain ⟨hB, h, ht⟩ := ok
  have v0 : dSV P (64 * B.2.2.2.1) (B.1, B.2.1, B.2.2.1, B.2.2.2.1 + 1, B.2.2.2.2.1, B.2.2.2.2.2.1, B.2.2.2.2.2.2.1, B.2.2.2.2.2.2.2.1, B.2.2.2.2.2.2.2.2) := dSV_md hB rfl rfl rfl rfl rfl rfl rfl
  have v1 := dSV_ca v0 hn
  have v2 := dSV_sq W.S hn 25 v1
  have v3 := dSV_br v2 hn
  have v4 := dSV_mv v3 hn
  have v5 := dSV_mD v4
  have v6 : dSV P _ (dB7 P B) := dSV_tL v5 hn
  have t0 : ((B.1, B.2.1, B.2.2.1, B.2.2.2.1 + 1, B.2.2.2.2.1, B.2.2.2.2.2.1, B.2.2.2.2.2.2.1, B.2.2.2.2.2.2.2.1, B.2.2.2.2.2.2.2.2) : dB).2.2.2.1 < 100000 := by show B.2.2.2.1 + 1 < _; omega
  have k0 : dK P (B.1, B.2.1, B.2.2.1, B.2.2.2.1 + 1, B.2.2.2.2.1, B.2.2.2.2.2.1, B.2.2.2.2.2.2.1, B.2.2.2.2.2.2.2.1, B.2.2.2.2.2.2.2.2) := dK_md h rfl rfl
  have k1 := dK_ca k0 t0 hn
  have t1 := dCA_tk (P := P) (B := (B.1, B.2.1, B.2.2.1, B.2.2.2.1 + 1, B.2.2.2.2.1, B.2.2.2.2.2.1, B.2.2.2.2.2.2.1, B.2.2.2.2.2.2.2.1, B.2.2.2.2.2.2.2.2))
  rw [← t1] at t0
  obtain ⟨k2, t2⟩ := dK_sq (P := P) 25 k1 t0
  rw [← t2] at t0
  obtain ⟨k3, t3⟩ := dK_br hn k2 v2.b t0
  rw [← t3] at t0
  obtain ⟨k4, t4⟩ := dK_mv hn W.K k3 t0
  rw [← t4] at t0
  obtain ⟨k5, t5⟩ := dK_mD k4
  rw [← t5] at t0
  obtain ⟨k6, t6, e6⟩ := dK_tL hn k5 t0
  obtain ⟨a, ha, ea⟩ := dMD_tot W.V W.K hn k4
  change dK P (dB7 P B) at k6
  change (dB7 P B).2.2.2.2.1 = _ at e6
  have t7 : (dB7 P B).2.2.2.1 = B.2.2.2.1 + 1 := t6.trans (t5.trans (t4.trans (t3.trans (t2.trans t1))))
  refine ⟨a, ha, ?_⟩
  unfold dPass
  by_cases c : (dB7 P B).2.2.2.2.1 ≤ P.2.2.2 14 6
  · rw [if_pos c, (dK_lf hn k6 v6.b (by omega)).2.2, e6, ea]
  · rw [if_neg c]
    obtain ⟨k7, t7', e7⟩ := dK_ta hn k6 (by omega)
    rw [(dK_lf hn k7 (dSV_ta v6).b (by omega)).2.2, e7, e6, ea]
end F14a
def dBc (on : Nat → Bool) (tot : Nat → Int32) : Nat → Int32 × Int32
  | 0 => (-2, 0)
  | t + 1 => if on t = true then (if (dBc on tot t).1 < 0 then (dn t, tot t) else if (dBc on tot t).2 ≤ tot t then dBc on tot t else (dn t, tot t)) else dBc on tot t
def dBr (on : Nat → Bool) (tot : Nat → Int32) : Nat → Int32 × Int32
  | 0 => (-2, 268435456)
  | t + 1 => if on t = true then (if tot t < (dBr on tot t).2 then (dn t, tot t) else dBr on tot t) else dBr on tot t
theorem dBcr {on : Nat → Bool} {tot : Nat → Int32} (ht : ∀ t, ∃ a, a < 1000000 ∧ tot t = dn a) : ∀ n, n < 1000 → (dBc on tot n = (-2, 0) ∧ dBr on tot n = (-2, 268435456)) ∨ (dBc on tot n = dBr on tot n ∧ ∃ j, j < 1000 ∧ (dBc on tot n).1 = dn j) := by
  intro n
  induction n with
  | zero => intro _; exact Or.inl ⟨rfl, rfl⟩
  | succ n ih =>
    intro hn
    obtain ⟨a, ha, ea⟩ := ht n
    unfold dBc dBr
    by_cases c : on n = true
    · rw [if_pos c, if_pos c]
      rcases ih (by omega) with ⟨h1, h2⟩ | ⟨h1, j, h2, h3⟩
      · right
        rw [h1, h2, if_pos (show (-2 : Int32) < 0 by decide), if_pos (by
          rw [ea, show (268435456 : Int32) = dn 268435456 from rfl, dn_lt (by omega) (by omega)]
          omega)]
        exact ⟨rfl, n, by omega, rfl⟩
      · right
        rw [if_neg (by rw [h3]; exact dn_nn (by omega)), ← h1]
        by_cases c2 : (dBc on tot n).2 ≤ tot n
        · rw [if_pos c2, if_neg (Int32.not_lt.mpr c2)]
          exact ⟨rfl, j, h2, h3⟩
        · rw [if_neg c2, if_pos (Int32.not_le.mp c2)]
          exact ⟨rfl, n, by omega, rfl⟩
    · rw [if_neg c, if_neg c]
      exact ih (by omega)
section F14b
variable {σ σ' μ μ' μ1 μ2 : pxS} {P : dP} {k p f : Nat} {B B' : dB} {I : Option dB} {H : List dB}
theorem dTotN {T n : Nat} (W : dWA P) (ok : dOK P T B) (hT : T + n < 90000) (h1 : 1 ≤ n) : ∃ a, a < 1000000 ∧ (dPn P n B).2.2.2.2.1 = dn a := by
  obtain ⟨m, rfl⟩ : ∃ m, n = m + 1 := ⟨n - 1, by omega⟩
  exact dTot W (dPn_ok W ok m (by omega)).1 (by omega)
/-- the total n ticks on, a rail asked off now -/
theorem dT_tio {n i : Nat} (h : dI σ μ P p B I H f) (hτ : dC σ' 1 p P B) (hi : i < P.1) (hn : n ≤ 60) : dw (F_PR_totalIfOff σ' (dn i) (dn n)) (fun r => r.1 = (dPn P n (dAsk P B i true)).2.2.2.2.1 ∧ dC r.2 1 p P B ∧ dF 2 σ' r.2) := by
  unfold F_PR_totalIfOff
  refine dw_T (dT_cp hτ (show 2 ≠ 1 by omega) h.pp h.W.wp h.ok.1.b h.ok.2.1) fun σ1 k1 f1 => ?_
  refine dw_T (dT_ask (off := true) k1 h.W.wp h.pp h.ok.1.b hi) fun σ2 k2 f2 => ?_
  rw [dw_b1]
  refine dw_mono (dT_loop (n := n) (fun t τ => (dn t, τ)) (fun τ => τ) k2 h.W h.pp (dOK_ask (off := true) h.ok hi) (by omega) (fun t τ ht hτ => ⟨_, by
    show PR_totalIfOff_n22 τ (dn n) (dn t) = _
    unfold PR_totalIfOff_n22
    rw [if_neg (by rw [dn_le (by omega) (by omega)]; omega)], fun τ1 g1 => by
    show some _ = some _
    rw [dn_suc]⟩) (fun τ hτ => by
    show PR_totalIfOff_n22 τ (dn n) (dn n) = _
    unfold PR_totalIfOff_n22
    rw [if_pos (by rw [dn_le (by omega) (by omega)]; omega)])) fun e ⟨τ, he, k3, f3⟩ => dw_some.mpr ?_
  subst he
  have ff := dF_trans f1 (dF_trans f2 f3)
  exact ⟨k3.total, dC_F (by omega) ff hτ, ff⟩
theorem dS_bestOff (h : dI σ μ P p B I H f) (v : Int32) : dSt (F_PR_bestOff σ v) (F_Mo_bestOff μ v) := by
  unfold F_PR_bestOff F_Mo_bestOff PR_bestOff_n11 Mo_bestOff_n16
  have h := dI_th (v := 0) h
  rw [px_l]
  generalize px_up μ (0, 0, 0) 0 0 = μ at h
  have hn := h.W.wp.n
  have hp := h.pp
  by_cases c0 : v < 1
  · rw [if_pos c0, if_pos c0]; exact dSt_2 rfl h
  rw [if_neg c0, if_neg c0]
  obtain ⟨n, hn2, hn1, rfl⟩ := dn_ge1 c0
  by_cases c : n ≤ 60
  · have hc : dn n ≤ 60 := by rw [show (60 : Int32) = dn 60 from rfl, dn_le (by omega) (by omega)]; exact c
    rw [if_pos hc, if_pos hc, dSt, dw_b1]
    have htot : ∀ t, ∃ a, a < 1000000 ∧ (fun i => if i < P.1 then (dPn P n (dAsk P B i true)).2.2.2.2.1 else 0) t = dn a := fun t => by
      by_cases ct : t < P.1
      · obtain ⟨a, ha, ea⟩ := dTotN h.W (dOK_ask (off := true) h.ok ct) (show 9999 + n < 90000 by omega) hn1
        exact ⟨a, ha, by dsimp only; rw [if_pos ct, ea]⟩
      · exact ⟨0, by omega, by dsimp only; rw [if_neg ct]; rfl⟩
    obtain ⟨tot, htt⟩ : ∃ tot, tot = fun i => if i < P.1 then (dPn P n (dAsk P B i true)).2.2.2.2.1 else 0 := ⟨_, rfl⟩
    obtain ⟨on, hon⟩ : ∃ on : Nat → Bool, on = fun i => decide (B.on i) := ⟨_, rfl⟩
    rw [← htt] at htot
    have etot : ∀ t, t < P.1 → tot t = (dPn P n (dAsk P B t true)).2.2.2.2.1 := fun t ht => by rw [htt]; dsimp only; rw [if_pos ht]
    have eon : ∀ t, on t = true ↔ B.on t := fun t => by rw [hon]; simp
    refine dw_mono (P := fun e : Int32 × pxS => e.1 = (dBc on tot P.1).1 ∧ dF 2 σ e.2) ?_ fun e he => ?_
    · refine dw_up P.1 (by unfold px_N; omega) (fun t s => s.1 = (dBc on tot t).1 ∧ s.2.1 = (dBc on tot t).2 ∧ s.2.2.1 = dn t ∧ dC s.2.2.2 1 p P B ∧ dF 2 σ s.2.2.2) (fun t s ht hI => ?_) (fun s hI => ?_) (Nat.zero_le _) ⟨rfl, rfl, rfl, h.C, dF_refl 2 σ⟩
      · obtain ⟨b, l, x, τ⟩ := s
        obtain ⟨rfl, rfl, rfl, h1, h2⟩ := hI
        dsimp only at h1 h2
        have e06 : τ (0, 0, 0) 6 = dn p := by rw [h2 _ (by simp [dbk])]; exact h.cp
        show dw (PR_bestOff_n21 τ (dn n) _ _ (dn t)) _
        unfold PR_bestOff_n21 PR_bestOff_n64 PR_bestOff_n70
        rw [e06, dn_nat (show p < 2147483648 by omega), h1.P.n, if_neg (by rw [dn_le (by omega) (by omega)]; omega)]
        refine dw_v (dC_on h1 h.W.wp ht) ?_
        have ec : dBc on tot (t + 1) = if on t = true then (if (dBc on tot t).1 < 0 then (dn t, tot t) else if (dBc on tot t).2 ≤ tot t then dBc on tot t else (dn t, tot t)) else dBc on tot t := rfl
        by_cases co : B.on t
        · rw [if_pos ((eon t).mpr co)] at ec
          rw [if_pos co, if_neg (by decide), dw_b2]
          refine dw_mono (dT_tio h h1 ht c) fun r ⟨r1, r2, r3⟩ => ?_
          rw [← etot t ht] at r1
          rw [r1, ec]
          by_cases c1 : (dBc on tot t).1 < 0
          · rw [if_pos c1, if_pos c1]
            simp only [dw_some, dR_l]
            exact ⟨trivial, trivial, dn_suc t, r2, dF_trans h2 r3⟩
          · rw [if_neg c1, if_neg c1]
            by_cases c2 : (dBc on tot t).2 ≤ tot t
            · rw [if_pos c2, if_pos c2]
              simp only [dw_some, dR_l]
              exact ⟨trivial, trivial, dn_suc t, r2, dF_trans h2 r3⟩
            · rw [if_neg c2, if_neg c2]
              simp only [dw_some, dR_l]
              exact ⟨trivial, trivial, dn_suc t, r2, dF_trans h2 r3⟩
        · rw [if_neg (fun z => co ((eon t).mp z))] at ec
          rw [if_neg co, if_pos rfl, ec]
          simp only [dw_some, dR_l]
          exact ⟨trivial, trivial, dn_suc t, h1, h2⟩
      · obtain ⟨b, l, x, τ⟩ := s
        obtain ⟨rfl, rfl, rfl, h1, h2⟩ := hI
        dsimp only at h1 h2
        have e06 : τ (0, 0, 0) 6 = dn p := by rw [h2 _ (by simp [dbk])]; exact h.cp
        show dw (PR_bestOff_n21 τ (dn n) _ _ (dn P.1)) _
        unfold PR_bestOff_n21
        rw [e06, dn_nat (show p < 2147483648 by omega), h1.P.n, if_pos (by rw [dn_le (by omega) (by omega)]; omega)]
        simp only [dw_some, dR_r]
        exact ⟨trivial, h2⟩
    · obtain ⟨b, τ⟩ := e
      obtain ⟨rfl, ff⟩ := he
      dsimp only at ff
      rw [dw_some, dw_b1]
      have hwl := dL_len h.ok.1.b.w
      have hrl := dL_len h.ok.1.b.r
      refine dw_mono (dU_aside h.M hn) fun μ1 ⟨m1, a1, r1, _⟩ => ?_
      rw [dw_b1]
      refine dw_mono (P := fun e : Int32 × pxS => e.1 = (dBr on tot P.1).1 ∧ dGs μ e.2 ∧ ∀ x, x < 308 → e.2 (1, 28, 0) x = μ (1, 28, 0) x) ?_ fun e he => ?_
      · refine dw_up P.1 (by unfold px_N; omega) (fun t s => s.1 = (dBr on tot t).1 ∧ s.2.1 = (dBr on tot t).2 ∧ s.2.2.1 = dn t ∧ dM s.2.2.2 P B ∧ dAs μ s.2.2.2 ∧ ∀ x, x < 308 → s.2.2.2 (1, 28, 0) x = μ (1, 28, 0) x) (fun t s ht hI => ?_) (fun s hI => ?_) (Nat.zero_le _) ⟨rfl, rfl, rfl, m1, a1, fun x _ => congrFun r1 x⟩
        · obtain ⟨b, l, x, ρ⟩ := s
          obtain ⟨rfl, rfl, rfl, h1, h2, h3⟩ := hI
          dsimp only at h1 h2 h3
          have ec : dBr on tot (t + 1) = if on t = true then (if tot t < (dBr on tot t).2 then (dn t, tot t) else dBr on tot t) else dBr on tot t := rfl
          have go : ∀ {QQ : Int32 × pxS → Prop}, B.on t → dw (Mo_bestOff_n73 ρ (dn n) (dBr on tot t).1 (dBr on tot t).2 (dn t)) (dR (fun s => s.1 = (dBr on tot (t + 1)).1 ∧ s.2.1 = (dBr on tot (t + 1)).2 ∧ s.2.2.1 = dn (t + 1) ∧ dM s.2.2.2 P B ∧ dAs μ s.2.2.2 ∧ ∀ x, x < 308 → s.2.2.2 (1, 28, 0) x = μ (1, 28, 0) x) QQ) := fun {QQ} co => by
            rw [if_pos ((eon t).mpr co)] at ec
            unfold Mo_bestOff_n73 Mo_bestOff_n137
            refine du_T (dU_ask (off := true) h1 h.ok.1.b hn h.W.H ht) fun μ2 m2 g2 => ?_
            rw [dw_b1]
            refine dw_mono (dU_loop (n := n) (fun t τ => (dn t, τ)) (fun τ => τ) m2 h.W (dOK_ask (off := true) h.ok ht) (by omega) (fun t' τ ht hτ => ⟨_, by
              show Mo_bestOff_n83 τ (dn n) _ _ _ (dn t') = _
              unfold Mo_bestOff_n83
              rw [if_neg (by rw [dn_le (by omega) (by omega)]; omega)], fun τ1 g1 => by
              show some _ = some _
              rw [dn_suc]⟩) (fun τ hτ => by
              show Mo_bestOff_n83 τ (dn n) _ _ _ (dn n) = _
              unfold Mo_bestOff_n83
              rw [if_pos (by rw [dn_le (by omega) (by omega)]; omega)])) fun e ⟨τ', he, m3, g3⟩ => ?_
            subst he
            rw [m3.s.total, ← etot t ht, dw_b1]
            refine dw_mono (dU_back (dAs_3 h2 (dG3_trans (dG3_of g2) g3))) fun μ3 ⟨b1, b2, b3⟩ => ?_
            have m4 : dM μ3 P B := ⟨dMs_c hn (by omega) (by omega) b2 h.M.s, dMP_Gs b1 h.M.P⟩
            by_cases c1 : tot t < (dBr on tot t).2
            · rw [if_pos c1] at ec ⊢
              rw [ec]
              simp only [dw_some, dR_l]
              exact ⟨trivial, trivial, dn_suc t, m4, ⟨b1, b3⟩, b2⟩
            · rw [if_neg c1] at ec ⊢
              rw [ec]
              simp only [dw_some, dR_l]
              exact ⟨trivial, trivial, dn_suc t, m4, ⟨b1, b3⟩, b2⟩
          show dw (Mo_bestOff_n41 ρ (dn n) _ _ (dn t)) _
          unfold Mo_bestOff_n41
          refine dw_v (dM_n h1) ?_
          rw [if_neg (by rw [dn_le (by omega) (by omega)]; omega)]
          refine dw_v (dM_state h1 hn ht) (dw_ite (fun c1 => go (Or.inl c1)) (fun c1 => ?_))
          refine dw_v (dM_state h1 hn ht) (dw_ite (fun c2 => go (Or.inr c2)) (fun c2 => ?_))
          unfold Mo_bestOff_n137
          rw [if_neg (fun z => ((eon t).mp z).elim c1 c2)] at ec
          rw [ec]
          simp only [dw_some, dR_l]
          exact ⟨trivial, trivial, dn_suc t, h1, h2, h3⟩
        · obtain ⟨b, l, x, ρ⟩ := s
          obtain ⟨rfl, rfl, rfl, h1, h2, h3⟩ := hI
          dsimp only at h1 h2 h3
          show dw (Mo_bestOff_n41 ρ (dn n) _ _ (dn P.1)) _
          unfold Mo_bestOff_n41
          refine dw_v (dM_n h1) ?_
          rw [if_pos (by rw [dn_le (by omega) (by omega)]; omega)]
          simp only [dw_some, dR_r]
          exact ⟨trivial, h2.1, h3⟩
      · obtain ⟨b, ρ⟩ := e
        obtain ⟨rfl, b1, b2⟩ := he
        dsimp only at b1 b2
        refine dw_some.mpr (dSt_try h ?_ ff b1 b2)
        rcases dBcr (on := on) htot P.1 (by omega) with ⟨z1, z2⟩ | ⟨z1, _⟩
        · rw [z1, z2]
        · rw [z1]
  · have hc : ¬ dn n ≤ 60 := by rw [show (60 : Int32) = dn 60 from rfl, dn_le (by omega) (by omega)]; exact c
    rw [if_neg hc, if_neg hc]; exact dSt_2 rfl h
end F14b
end
section
/-! loads by chance -/
def dfol (v : Int32) : Int32 := ((v * 1103515245) + 12345) &&& 2147483647
def dpick (v : Int32) (c : Nat) : Nat := dv v / 65536 % c
theorem dfol_nn (v : Int32) : dv (dfol v) < 2147483648 := by
  unfold dfol
  rw [dv_and]
  have : dv 2147483647 = 2147483647 := by decide
  rw [this]
  exact Nat.lt_of_le_of_lt Nat.and_le_right (by omega)
theorem dpick_eq {v : Int32} {c : Nat} (hv : dv v < 2147483648) (hc : 0 < c) (hc2 : c < 2147483648) : (v >>> (16 &&& 31)) - (v >>> (16 &&& 31)) / dn c * dn c = dn (dpick v c) := by
  have e : v = dn (dv v) := dv_inj (by rw [dv_dn (by omega)])
  have e2 : v >>> (16 &&& 31) = dn (dv v / 65536) := by
    conv => lhs; rw [e]
    rw [show (16 : Int32) = dn 16 from rfl, dn_sar (by omega) hv]
  rw [e2, dn_mod (by omega) hc hc2]
  rfl
def dCn (P : dP) (c : Nat) (s : Int32 × dB) : Int32 × dB :=
  if P.1 = 0 then (s.1, dPass P s.2) else (dfol (dfol s.1), dPass P (s.2.st (dpick (dfol s.1) P.1) 0 (dn (dpick (dfol (dfol s.1)) (c + 1)))))
def dCs (P : dP) (c : Nat) (s : Int32 × dB) : Nat → Int32 × dB
  | 0 => s
  | t + 1 => dCn P c (dCs P c s t)
section F15
variable {σ σ' μ μ' μ1 μ2 : pxS} {P : dP} {k p f : Nat} {B B' : dB} {I : Option dB} {H : List dB}
theorem dM_0 {q : Nat} {v : Int32} (h : dM μ P B) : dM (px_up μ (0, 0, 0) q v) P B := ⟨by rw [up_o (by simp)]; exact h.s, dMP_e (fun a _ => up_o (by simp)) h.P⟩
theorem dOK_ld {T i c : Nat} (h : dOK P T B) (hc : c ≤ 9999) : dOK P T (B.st i 0 (dn c)) := ⟨dSV_st h.1 (by omega), dK_0 h.2.1 ⟨c, hc, rfl⟩, h.2.2⟩
theorem dCs_ok {T c : Nat} {v : Int32} (W : dWA P) (h : dOK P T B) (hc : c ≤ 9999) : ∀ t, T + t < 90000 → dOK P (T + t) (dCs P c (v, B) t).2 := by
  intro t
  induction t with
  | zero => intro _; exact h
  | succ t ih =>
    intro hT
    have h1 := ih (by omega)
    have e : dCs P c (v, B) (t + 1) = dCn P c (dCs P c (v, B) t) := rfl
    rw [e]
    unfold dCn
    by_cases c0 : P.1 = 0
    · rw [if_pos c0]
      exact dOK_pass W h1 (show T + t < 90000 by omega)
    · rw [if_neg c0]
      have hlt : dpick (dfol (dfol (dCs P c (v, B) t).1)) (c + 1) < c + 1 := Nat.mod_lt _ (by omega)
      exact dOK_pass W (dOK_ld h1 (show dpick (dfol (dfol (dCs P c (v, B) t).1)) (c + 1) ≤ 9999 by omega)) (show T + t < 90000 by omega)
theorem dT_chance {c n : Nat} {v : Int32} (h : dC σ 2 p P B) (W : dWA P) (hp : p < 2) (ok : dOK P 9999 B) (hc : c ≤ 9999) (hn2 : n ≤ 200) : dw (F_Bo_passByChance σ 2 v (dn n) (dn c)) (fun r => r.1 = dMx (fun t => (dCs P c (v, B) t).2.2.2.2.2.1) 0 n ∧ dC r.2 2 p P (dCs P c (v, B) n).2 ∧ dF 2 σ r.2) := by
  have hn := W.wp.n
  unfold F_Bo_passByChance
  rw [h.hp, dn_nat (show p < 2147483648 by omega), h.P.n, dw_b1]
  refine dw_mono (P := fun e : Int32 × pxS => e.1 = dMx (fun t => (dCs P c (v, B) t).2.2.2.2.2.1) 0 n ∧ dC e.2 2 p P (dCs P c (v, B) n).2 ∧ dF 2 σ e.2) ?_ fun e he => dw_some.mpr he
  refine dw_up n (by unfold px_N; omega) (fun t s => s.1 = (dCs P c (v, B) t).1 ∧ s.2.1 = dMx (fun t => (dCs P c (v, B) t).2.2.2.2.2.1) 0 t ∧ s.2.2.1 = dn t ∧ dC s.2.2.2 2 p P (dCs P c (v, B) t).2 ∧ dF 2 σ s.2.2.2) (fun t s ht hI => ?_) (fun s hI => ?_) (Nat.zero_le _) ⟨rfl, rfl, rfl, h, dF_refl 2 σ⟩
  · obtain ⟨x1, x2, x3, τ⟩ := s
    obtain ⟨rfl, rfl, rfl, h1, h2⟩ := hI
    dsimp only at h1 h2
    have okt := dCs_ok (v := v) W ok hc t (by omega)
    have em : dMx (fun t => (dCs P c (v, B) t).2.2.2.2.2.1) 0 (t + 1) = dGx (dMx (fun t => (dCs P c (v, B) t).2.2.2.2.2.1) 0 t) (dCs P c (v, B) (t + 1)).2.2.2.2.2.1 := rfl
    have es : dCs P c (v, B) (t + 1) = dCn P c (dCs P c (v, B) t) := rfl
    show dw (Bo_passByChance_n18 τ 2 (dn n) (dn c) _ _ (dn P.1) (dn t)) _
    rw [em, es]
    generalize dCs P c (v, B) t = S at h1 okt
    generalize dMx (fun t => (dCs P c (v, B) t).2.2.2.2.2.1) 0 t = g
    unfold Bo_passByChance_n18 Bo_passByChance_n70 dCn
    rw [if_neg (by rw [dn_le (by omega) (by omega)]; omega)]
    by_cases c0 : P.1 = 0
    · rw [if_pos (by rw [show (0 : Int32) = dn 0 from rfl, dn_le (by omega) (by omega)]; omega), if_pos c0]
      refine dw_T (dT_p h1 W hp okt (by omega)) fun τ1 g1 f1 => ?_
      simp only [dw_some, dR_l]
      rw [g1.total]
      exact ⟨trivial, rfl, dn_suc t, g1, dF_trans h2 f1⟩
    · rw [if_neg (by rw [show (0 : Int32) = dn 0 from rfl, dn_le (by omega) (by omega)]; omega), if_neg c0]
      have hj : dpick (dfol S.1) P.1 < P.1 := Nat.mod_lt _ (by omega)
      have hl : dpick (dfol (dfol S.1)) (c + 1) < c + 1 := Nat.mod_lt _ (by omega)
      have d1 : F_Bo_drawn τ (dfol S.1) (dn P.1) = some (dn (dpick (dfol S.1) P.1)) := by
        unfold F_Bo_drawn px_gz
        rw [if_neg (by rw [show (0 : Int32) = dn 0 from rfl, dn_le (by omega) (by omega)]; omega), if_neg (by rw [show (0 : Int32) = dn 0 from rfl, dn_inj (by omega) (by omega)]; omega), dpick_eq (dfol_nn _) (by omega) (by omega)]
      have d2 : F_Bo_drawn τ (dfol (dfol S.1)) (dn (c + 1)) = some (dn (dpick (dfol (dfol S.1)) (c + 1))) := by
        unfold F_Bo_drawn px_gz
        rw [if_neg (by rw [show (0 : Int32) = dn 0 from rfl, dn_le (by omega) (by omega)]; omega), if_neg (by rw [show (0 : Int32) = dn 0 from rfl, dn_inj (by omega) (by omega)]; omega), dpick_eq (dfol_nn _) (by omega) (by omega)]
      refine dw_v (r := dfol S.1) rfl (dw_v d1 (dw_v (r := dfol (dfol S.1)) rfl (dw_gi (by omega) (by omega) ?_)))
      rw [dn_suc]
      refine dw_v d2 ?_
      rw [dn_nat (by omega)]
      refine dw_st h1 fun τ1 k1 f1 => ?_
      refine dw_T (dT_p k1 W hp (dOK_ld okt (show dpick (dfol (dfol S.1)) (c + 1) ≤ 9999 by omega)) (by omega)) fun τ2 k2 f2 => ?_
      simp only [dw_some, dR_l]
      rw [k2.total]
      exact ⟨trivial, rfl, dn_suc t, k2, dF_trans h2 (dF_trans f1 f2)⟩
  · obtain ⟨x1, x2, x3, τ⟩ := s
    obtain ⟨rfl, rfl, rfl, h1, h2⟩ := hI
    show dw (Bo_passByChance_n18 τ 2 (dn n) (dn c) _ _ (dn P.1) (dn n)) _
    unfold Bo_passByChance_n18
    rw [if_pos (by rw [dn_le (by omega) (by omega)]; omega)]
    simp only [dw_some, dR_r]
    exact ⟨trivial, h1, h2⟩
theorem dU_chance {c n : Nat} {v a b : Int32} (h0 : dAs μ μ1) (h : dM μ1 P B) (hv : μ1 (0, 0, 0) 40 = v) (W : dWA P) (ok : dOK P 9999 B) (hc : c ≤ 9999) (hn2 : n ≤ 200) : dw (px_it (Mo_chance_L92 (dn n) (dn c) a b) px_N (0, 0, μ1)) (fun r => r.1 = dMx (fun t => (dCs P c (v, B) t).2.2.2.2.2.1) 0 n ∧ dM r.2 P (dCs P c (v, B) n).2 ∧ dAs μ r.2) := by
  have hn := W.wp.n
  refine dw_up n (by unfold px_N; omega) (fun t s => s.1 = dMx (fun t => (dCs P c (v, B) t).2.2.2.2.2.1) 0 t ∧ s.2.1 = dn t ∧ s.2.2 (0, 0, 0) 40 = (dCs P c (v, B) t).1 ∧ dM s.2.2 P (dCs P c (v, B) t).2 ∧ dAs μ s.2.2) (fun t s ht hI => ?_) (fun s hI => ?_) (Nat.zero_le _) ⟨rfl, rfl, hv, h, h0⟩
  · obtain ⟨x2, x3, τ⟩ := s
    obtain ⟨rfl, rfl, h3, h1, h2⟩ := hI
    dsimp only at h1 h2 h3
    have okt := dCs_ok (v := v) W ok hc t (by omega)
    have em : dMx (fun t => (dCs P c (v, B) t).2.2.2.2.2.1) 0 (t + 1) = dGx (dMx (fun t => (dCs P c (v, B) t).2.2.2.2.2.1) 0 t) (dCs P c (v, B) (t + 1)).2.2.2.2.2.1 := rfl
    have es : dCs P c (v, B) (t + 1) = dCn P c (dCs P c (v, B) t) := rfl
    show dw (Mo_chance_n92 τ (dn n) (dn c) a b _ (dn t)) _
    rw [em, es]
    generalize dCs P c (v, B) t = S at h1 okt h3
    generalize dMx (fun t => (dCs P c (v, B) t).2.2.2.2.2.1) 0 t = g
    unfold Mo_chance_n92 Mo_chance_n135 dCn
    rw [if_neg (by rw [dn_le (by omega) (by omega)]; omega)]
    refine dw_v (dM_n h1) ?_
    by_cases c0 : P.1 = 0
    · rw [if_pos (by rw [show (0 : Int32) = dn 0 from rfl, dn_le (by omega) (by omega)]; omega), if_pos c0, dw_b1]
      refine dw_mono (dU_p h1 W okt (by omega)) fun τ1 ⟨g1, f1⟩ => dw_v dgreater ?_
      simp only [dw_some, dR_l]
      rw [g1.s.total]
      refine ⟨rfl, dn_suc t, ?_, g1, dAs_3 h2 f1⟩
      rw [f1 _ (by simp) (by simp) (by simp)]; exact h3
    · rw [if_neg (by rw [show (0 : Int32) = dn 0 from rfl, dn_le (by omega) (by omega)]; omega), if_neg c0]
      have hj : dpick (dfol S.1) P.1 < P.1 := Nat.mod_lt _ (by omega)
      have hl : dpick (dfol (dfol S.1)) (c + 1) < c + 1 := Nat.mod_lt _ (by omega)
      have dr : ∀ (ρ : pxS) (m : Nat), 0 < m → m < 100000 → F_Mo_draw ρ (dn m) = some (dn (dpick (dfol (ρ (0, 0, 0) 40)) m), px_up ρ (0, 0, 0) 40 (dfol (ρ (0, 0, 0) 40))) := fun ρ m h1 h2 => by
        unfold F_Mo_draw px_gz
        rw [px_l, if_neg (by rw [show (0 : Int32) = dn 0 from rfl, dn_inj (by omega) (by omega)]; omega), up_0, if_pos rfl]
        have := dpick_eq (v := dfol (ρ (0, 0, 0) 40)) (c := m) (dfol_nn _) h1 (by omega)
        show some (((dfol (ρ (0, 0, 0) 40)) >>> (16 &&& 31)) - ((dfol (ρ (0, 0, 0) 40)) >>> (16 &&& 31)) / dn m * dn m, _) = _
        rw [this]
        rfl
      refine dw_v (dM_n h1) ?_
      rw [dr τ P.1 (by omega) (by omega), px_b2_s, dn_suc, dr _ (c + 1) (by omega) (by omega), px_b2_s]
      dsimp only
      rw [up_0, if_pos rfl, h3]
      rw [show 13 * dn (dpick (dfol S.1) P.1) + 6 = dn (13 * dpick (dfol S.1) P.1 + 6) from ix _ 6]
      have hM : dM (px_up (px_up τ (0, 0, 0) 40 (dfol S.1)) (0, 0, 0) 40 (dfol (dfol S.1))) P S.2 := dM_0 (dM_0 h1)
      have hG : dGs τ (px_up (px_up τ (0, 0, 0) 40 (dfol S.1)) (0, 0, 0) 40 (dfol (dfol S.1))) := dGs_trans (dGs_0 (Or.inr (Or.inr rfl))) (dGs_0 (Or.inr (Or.inr rfl)))
      have h29 : px_up (px_up τ (0, 0, 0) 40 (dfol S.1)) (0, 0, 0) 40 (dfol (dfol S.1)) (1, 29, 0) = τ (1, 29, 0) := by rw [up_o (by simp), up_o (by simp)]
      have h40 : px_up (px_up τ (0, 0, 0) 40 (dfol S.1)) (0, 0, 0) 40 (dfol (dfol S.1)) (0, 0, 0) 40 = dfol (dfol S.1) := by rw [up_0, if_pos rfl]
      generalize px_up (px_up τ (0, 0, 0) 40 (dfol S.1)) (0, 0, 0) 40 (dfol (dfol S.1)) = τ1 at hM hG h29 h40
      have hA : dAs μ τ1 := ⟨dGs_trans h2.1 hG, fun x hx => by rw [h29]; exact h2.2 x hx⟩
      refine du_st (0, 6) hM hn hj (by decide) rfl fun τ2 k2 f2 => ?_
      rw [dw_b1]
      refine dw_mono (dU_p k2 W (dOK_ld okt (show dpick (dfol (dfol S.1)) (c + 1) ≤ 9999 by omega)) (by omega)) fun τ3 ⟨g3, f3⟩ => dw_v dgreater ?_
      simp only [dw_some, dR_l]
      rw [g3.s.total]
      refine ⟨rfl, dn_suc t, ?_, g3, dAs_3 hA (dG3_trans (dG3_of f2) f3)⟩
      rw [f3 _ (by simp) (by simp) (by simp), f2 _ (by simp [dmk])]; exact h40
  · obtain ⟨x2, x3, τ⟩ := s
    obtain ⟨rfl, rfl, h3, h1, h2⟩ := hI
    show dw (Mo_chance_n92 τ (dn n) (dn c) a b _ (dn n)) _
    unfold Mo_chance_n92
    rw [if_pos (by rw [dn_le (by omega) (by omega)]; omega)]
    simp only [dw_some, dR_r]
    exact ⟨trivial, h1, h2⟩
theorem dS_chance (h : dI σ μ P p B I H f) (v w x y : Int32) : dSt (F_PR_chance σ v w x y) (F_Mo_chance μ v w x y) := by
  unfold F_PR_chance F_Mo_chance PR_chance_n40 Mo_chance_n45
  have h := dI_th (v := 0) h
  rw [px_l]
  generalize px_up μ (0, 0, 0) 0 0 = μ at h
  have hn := h.W.wp.n
  have hp := h.pp
  by_cases c1 : v < -1
  · rw [if_pos c1, if_pos c1]; exact dSt_2 rfl h
  rw [if_neg c1, if_neg c1]
  by_cases c2 : w < 1
  · rw [if_pos c2, if_pos c2]; exact dSt_2 rfl h
  rw [if_neg c2, if_neg c2]
  by_cases c3 : 200 < w
  · rw [if_pos c3, if_pos c3]; exact dSt_2 rfl h
  rw [if_neg c3, if_neg c3]
  by_cases c4 : x < 1
  · rw [if_pos c4, if_pos c4]; exact dSt_2 rfl h
  rw [if_neg c4, if_neg c4]
  by_cases c5 : 9999 < x
  · rw [if_pos c5, if_pos c5]; exact dSt_2 rfl h
  rw [if_neg c5, if_neg c5]
  by_cases c6 : y < 0
  · rw [if_pos c6, if_pos c6]; exact dSt_2 rfl h
  rw [if_neg c6, if_neg c6]
  by_cases c7 : y ≤ 2
  · rw [if_pos c7, if_pos c7]
    obtain ⟨n, hn2, hn1, rfl⟩ := dn_ge1 c2
    obtain ⟨c, hc2, hc1, rfl⟩ := dn_ge1 c4
    have hn3 : n ≤ 200 := by
      rw [show (200 : Int32) = dn 200 from rfl, dn_lt (by omega) (by omega)] at c3
      omega
    have hc3 : c ≤ 9999 := by
      rw [show (9999 : Int32) = dn 9999 from rfl, dn_lt (by omega) (by omega)] at c5
      omega
    rw [dSt]
    refine dw_T (dT_cp h.C (show 2 ≠ 1 by omega) h.pp h.W.wp h.ok.1.b h.ok.2.1) fun σ1 k1 f1 => ?_
    -- the class behind its passes
    have cls : ∀ (s : Int32) (Q : Int32 × pxS → Prop), (∀ τ, dF 2 σ τ → Q ((if y = 0 then dMx (fun t => (dCs P c (s, B) t).2.2.2.2.2.1) 0 n else if y = 1 then dTs (dCs P c (s, B) n).2 P.1 - dTs B P.1 else dGm P (dCs P c (s, B) n).2 P.1), τ)) → dw (px_b2 (F_Bo_passByChance σ1 2 s (dn n) (dn c)) fun r2 σ2 =>
        (if y = 0 then some (r2, σ2) else (if y = 1 then px_b1 (F_Bo_allTrips σ2 2) fun r5 =>
        px_b1 (F_Bo_allTrips σ2 1) fun r6 =>
        some ((r5 - r6), σ2) else px_b1 (F_Bo_goodRails σ2 2) fun r4 =>
        some (r4, σ2)))) Q := fun s Q hQ => by
      rw [dw_b2]
      refine dw_mono (dT_chance (v := s) k1 h.W hp h.ok hc3 hn3) fun r ⟨r1, r2, r3⟩ => ?_
      have ff := dF_trans f1 r3
      have := hQ r.2 ff
      have hτ1 : dC r.2 1 p P B := dC_F (by omega) ff h.C
      by_cases y0 : y = 0
      · rw [if_pos y0]
        rw [if_pos y0, ← r1] at this
        exact dw_some.mpr this
      rw [if_neg y0]
      rw [if_neg y0] at this
      by_cases y1 : y = 1
      · rw [if_pos y1]
        rw [if_pos y1] at this
        exact dw_v (dC_ts r2 hn hp) (dw_v (dC_ts hτ1 hn hp) (dw_some.mpr this))
      · rw [if_neg y1]
        rw [if_neg y1] at this
        exact dw_v (dC_gm r2 h.W.wp hp) (dw_some.mpr this)
    -- the reference behind its passes
    have ref : ∀ (s : Int32) (Q : Int32 × pxS → Prop), (∀ μ3, dGs μ μ3 → (∀ x, x < 308 → μ3 (1, 28, 0) x = μ (1, 28, 0) x) → Q ((if y = 0 then dMx (fun t => (dCs P c (s, B) t).2.2.2.2.2.1) 0 n else if y = 1 then dTs (dCs P c (s, B) n).2 P.1 - dTs B P.1 else dGm P (dCs P c (s, B) n).2 P.1), μ3)) → dw (px_l (px_up μ (0, 0, 0) 40 s) fun σ23 =>
        px_b1 (F_Mo_copies_28_29 σ23 0 0) fun σ24 =>
        px_b1 (F_Mo_tripsAll σ24 ) fun r25 =>
        px_b1 (px_it (Mo_chance_L92 (dn n) (dn c) y r25) px_N (0, 0, σ24)) fun e26 =>
        (if y = 0 then px_b1 (F_Mo_copies_29_28 e26.2 0 0) fun σ32 =>
        some (e26.1, σ32) else (if y = 1 then px_b1 (F_Mo_tripsAll e26.2 ) fun r29 =>
        px_b1 (F_Mo_copies_29_28 e26.2 0 0) fun σ30 =>
        some ((r29 - r25), σ30) else px_b1 (F_Mo_good e26.2 ) fun r27 =>
        px_b1 (F_Mo_copies_29_28 e26.2 0 0) fun σ28 =>
        some (r27, σ28)))) Q := fun s Q hQ => by
      rw [dw_l, dw_b1]
      have hM : dM (px_up μ (0, 0, 0) 40 s) P B := dM_0 h.M
      refine dw_mono (dU_aside hM hn) fun μ1 ⟨m1, a1, _, z1⟩ => ?_
      have a2 : dAs μ μ1 := ⟨dGs_trans (dGs_0 (Or.inr (Or.inr rfl))) a1.1, fun x hx => by rw [a1.2 x hx, up_o (by simp)]⟩
      refine dw_v (dM_ts m1 hn) ?_
      rw [dw_b1]
      refine dw_mono (dU_chance (v := s) a2 m1 (by rw [z1, up_0, if_pos rfl]) h.W h.ok hc3 hn3) fun r ⟨r1, r2, r3⟩ => ?_
      have fin : ∀ x : Int32, x = (if y = 0 then dMx (fun t => (dCs P c (s, B) t).2.2.2.2.2.1) 0 n else if y = 1 then dTs (dCs P c (s, B) n).2 P.1 - dTs B P.1 else dGm P (dCs P c (s, B) n).2 P.1) → dw (px_b1 (F_Mo_copies_29_28 r.2 0 0) fun σ32 => some (x, σ32)) Q := fun x hx => by
        rw [dw_b1]
        refine dw_mono (dU_back r3) fun μ3 ⟨b1, b2, _⟩ => dw_some.mpr ?_
        rw [hx]
        exact hQ μ3 b1 b2
      by_cases y0 : y = 0
      · rw [if_pos y0]
        exact fin _ (by rw [if_pos y0, r1])
      rw [if_neg y0]
      by_cases y1 : y = 1
      · rw [if_pos y1]
        exact dw_v (dM_ts r2 hn) (fin _ (by rw [if_neg y0, if_pos y1]))
      · rw [if_neg y1]
        exact dw_v (dM_gm r2 hn) (fin _ (by rw [if_neg y0, if_neg y1]))
    rcases dn_cases v with cv | ⟨s, hs, rfl⟩
    · have ev : v = -1 := by
        apply Int32.toInt_inj.mp
        rw [Int32.lt_iff_toInt_lt] at cv c1
        have e1 : (-1 : Int32).toInt = -1 := by decide
        have e0 : (0 : Int32).toInt = 0 := by decide
        rw [e1] at c1 ⊢
        rw [e0] at cv
        omega
      have e06 : σ1 (0, 0, 0) 6 = dn p := by rw [f1 _ (by simp [dbk])]; exact h.cp
      rw [if_neg (Int32.not_le.mpr cv), if_pos ev, e06, dn_nat (show p < 2147483648 by omega), k1.P.e 7 (by omega), h.M.P.seed]
      exact cls _ _ fun τ ff => ref _ _ fun μ3 b1 b2 => dSt_try h rfl ff b1 b2
    · rw [if_pos (Int32.not_lt.mp (dn_nn hs)), if_neg (dn_m1 hs)]
      exact cls _ _ fun τ ff => ref _ _ fun μ3 b1 b2 => dSt_try h rfl ff b1 b2
  · rw [if_neg c7, if_neg c7]; exact dSt_2 rfl h
end F15
end
