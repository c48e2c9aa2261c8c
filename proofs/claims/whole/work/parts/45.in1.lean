section
/-! copies -/
section F1
variable {σ μ : pxS} {k k' p : Nat} {P : dP} {B : dB}
theorem dRa_cp {i : Nat} (hk : k ≠ k') (h6 : σ (3, k', i) 6 = 0 ∨ σ (3, k', i) 6 = 1) (h12 : σ (3, k', i) 12 = 0 ∨ σ (3, k', i) 12 = 1) : dw (F_Ra_copyFrom σ k i k' i) (fun σ' => (∀ q, q < 13 → σ' (3, k, i) q = σ (3, k', i) q) ∧ ∀ j, j ≠ (3, k, i) → σ' j = σ j) := by
  have hn : ((3, k', i) : pxI) ≠ (3, k, i) := fun e => hk (by simp at e; exact e.symm)
  have e : ∀ (τ : pxS) q v, px_up τ (3, k, i) q v (3, k', i) = τ (3, k', i) := fun τ q v => by
    funext x
    simp [px_up, hn]
  unfold F_Ra_copyFrom
  simp only [dw_l, dw_gb, dw_some, e]
  refine ⟨h6, h12, fun q hq => ?_, fun j hj => ?_⟩
  · have : q = 0 ∨ q = 1 ∨ q = 2 ∨ q = 3 ∨ q = 4 ∨ q = 5 ∨ q = 6 ∨ q = 7 ∨ q = 8 ∨ q = 9 ∨ q = 10 ∨ q = 11 ∨ q = 12 := by omega
    rcases this with rfl | rfl | rfl | rfl | rfl | rfl | rfl | rfl | rfl | rfl | rfl | rfl | rfl <;> simp [px_up]
  · funext x
    simp [px_up, hj]
theorem dQ_cp {w : Nat} {l : List Nat} (hk : k ≠ k') (h : dQ σ k' w l) (hl : l.length ≤ 12) : dw (F_Qu_copyFrom σ k w k' w) (fun σ' => dQ σ' k w l ∧ ∀ j, j ≠ (4, k, w) → j ≠ (10, k, w) → σ' j = σ j) := by
  have hn : ((4, k', w) : pxI) ≠ (4, k, w) := fun e => hk (by simp at e; exact e.symm)
  have e : ∀ (τ : pxS) q v, px_up τ (4, k, w) q v (4, k', w) = τ (4, k', w) := fun τ q v => by
    funext x
    simp [px_up, hn]
  unfold F_Qu_copyFrom
  simp only [dw_l, dw_some, e]
  refine ⟨⟨?_, fun t ht => ?_, fun i hi => ?_⟩, fun j h4 h10 => ?_⟩
  · simp [px_cp, px_up, h.s]
  · have h12 : t < 12 := by omega
    simp [px_cp, px_up, h12, h.i t ht]
  · simp [px_cp, px_up, h.b i hi]
  · funext x
    simp [px_cp, px_up, h4, h10]
theorem dT_cp (h : dC σ k' p P B) (hk : k ≠ k') (hp : p < 2) (hP : dWP P) (hB : dWB P B) (hK : dK P B) : dT σ k p P (F_Bo_copyFrom σ k k') B := by
  have hn := hP.n
  have hwl := dL_len hB.w
  have hrl := dL_len hB.r
  have ne : ∀ a b c : Nat, ((a, k', b) : pxI) ≠ (c, k, b) := fun a b c e => hk (by simp at e; exact e.2.symm)
  unfold F_Bo_copyFrom
  rw [dT, dw_l, dw_b1]
  -- the loop over the rails
  refine dw_mono (P := fun τ => (∀ i, i < P.1 → ∀ q, q < 13 → τ (3, k, i) q = B.1 i q) ∧ τ (2, k, 0) 4 = dn p ∧ dC τ k' p P B ∧ dF k σ τ) ?_ fun τ ⟨h1, h2, h3, h4⟩ => ?_
  · have e0 : ∀ j, ¬ dbk k j → px_up σ (2, k, 0) 4 (σ (2, k', 0) 4) j = σ j := fun j hj => dF_up (k := k) (by simp [dbk]) j hj
    have hC : ∀ τ, dF k σ τ → dC τ k' p P B := fun τ hF => by
      have g : ∀ j : pxI, j.2.1 = k' → τ j = σ j := fun j hj => hF j fun z => hk (by rw [← z.1, hj])
      exact ⟨by rw [g _ rfl]; exact h.hp, fun i hi q hq => by rw [g _ rfl]; exact h.f i hi q hq, dQ_c (g _ rfl) (g _ rfl) h.w, dQ_c (g _ rfl) (g _ rfl) h.r, by rw [g _ rfl]; exact h.tick, by rw [g _ rfl]; exact h.total, by rw [g _ rfl]; exact h.mode, by rw [g _ rfl]; exact h.step, by rw [g _ rfl]; exact h.stay, by rw [g _ rfl]; exact h.ll, fun t ht h4 => by rw [g _ rfl]; exact h.li t ht h4, dCP_F hF h.P⟩
    refine dw_up P.1 (by unfold px_N; omega) (fun t s => s.1 = dn t ∧ (∀ i, i < t → ∀ q, q < 13 → s.2 (3, k, i) q = B.1 i q) ∧ s.2 (2, k, 0) 4 = dn p ∧ dF k σ s.2) (fun t s ht hI => ?_) (fun s hI => ?_) (Nat.zero_le _) ⟨rfl, fun i hi => absurd hi (by omega), by
        show px_up σ (2, k, 0) 4 (σ (2, k', 0) 4) (2, k, 0) 4 = _
        rw [h.hp]; simp [px_up], by exact e0⟩
    · obtain ⟨v, τ⟩ := s
      obtain ⟨rfl, g1, g2, g3⟩ := hI
      dsimp only at g1 g2 g3
      have hτ := hC τ g3
      show dw (Bo_copyFrom_n10 τ k k' (dn t)) _
      unfold Bo_copyFrom_n10
      rw [g2, dn_nat (show p < 2147483648 by omega), hτ.P.n, if_neg (by rw [dn_le (by omega) (by omega)]; omega)]
      refine dw_gi (by omega) (by omega) (dw_gi (by omega) (by omega) ?_)
      rw [dn_nat (by omega), dw_b1]
      have hr := hK.r t ht
      refine dw_mono (dRa_cp (i := t) hk (by rw [hτ.f t ht 6 (by omega)]; exact hr.o) (by rw [hτ.f t ht 12 (by omega)]; exact hr.t)) fun τ1 ⟨k1, k2⟩ => ?_
      simp only [dw_some, dR_l]
      refine ⟨dn_suc t, fun i hi q hq => ?_, by rw [k2 _ (by simp)]; exact g2, dF_trans g3 fun j hj => k2 j fun e => hj (by rw [e]; simp [dbk])⟩
      by_cases e : i = t
      · subst e; rw [k1 q hq, hτ.f i ht q hq]
      · rw [k2 _ (by simp [e])]; exact g1 i (by omega) q hq
    · obtain ⟨v, τ⟩ := s
      obtain ⟨rfl, g1, g2, g3⟩ := hI
      dsimp only at g1 g2 g3
      have hτ := hC τ g3
      show dw (Bo_copyFrom_n10 τ k k' (dn P.1)) _
      unfold Bo_copyFrom_n10
      rw [g2, dn_nat (show p < 2147483648 by omega), hτ.P.n, if_pos (by rw [dn_le (by omega) (by omega)]; omega)]
      simp only [dw_some, dR_r]
      exact ⟨g1, g2, hτ, g3⟩
  · rw [dw_b1]
    refine dw_mono (dQ_cp (w := 0) hk h3.w (by omega)) fun τ1 ⟨a1, a2⟩ => ?_
    have r1 : dQ τ1 k' 1 B.2.2.1 := dQ_c (a2 _ (by simp) (by simp)) (a2 _ (by simp) (by simp)) h3.r
    rw [dw_b1]
    refine dw_mono (dQ_cp (w := 1) hk r1 (by omega)) fun τ2 ⟨b1, b2⟩ => ?_
    have e2 : ∀ j : pxI, j.1 ≠ 4 → j.1 ≠ 10 → τ2 j = τ j := fun j h4 h10 => (b2 j (fun e => h4 (by rw [e])) (fun e => h10 (by rw [e]))).trans (a2 j (fun e => h4 (by rw [e])) (fun e => h10 (by rw [e])))
    have n2 : ((2, k', 0) : pxI) ≠ (2, k, 0) := ne 2 0 2
    have n11 : ((2, k', 0) : pxI) ≠ (11, k, 0) := ne 2 0 11
    have u : ∀ (ρ : pxS) q v, px_up ρ (2, k, 0) q v (2, k', 0) = ρ (2, k', 0) := fun ρ q v => by
      funext x
      simp [px_up, n2]
    have u2 : px_cp τ2 (11, k', 0) (11, k, 0) 40 (2, k', 0) = τ (2, k', 0) := by
      funext x
      simp [px_cp, n11, e2]
    simp only [dw_l, dw_some, u, u2, h3.tick, h3.total, h3.mode, h3.step, h3.stay, h3.ll]
    generalize hρ : px_up (px_up (px_up (px_up (px_up (px_up (px_cp τ2 (11, k', 0) (11, k, 0) 40) (2, k, 0) 5 (dn B.2.2.2.1)) (2, k, 0) 6 B.2.2.2.2.1) (2, k, 0) 7 (dn B.2.2.2.2.2.1)) (2, k, 0) 8 (dn B.2.2.2.2.2.2.1)) (2, k, 0) 9 (dn B.2.2.2.2.2.2.2.1)) (2, k, 0) 10 (dn B.2.2.2.2.2.2.2.2.length) = ρ
    have f1 : ∀ j, j ≠ (2, k, 0) → j ≠ (11, k, 0) → ρ j = τ2 j := fun j h2 h11 => by
      rw [← hρ]
      funext x
      simp [px_up, px_cp, h2, h11]
    have F : dF k σ ρ := fun j hj => by
      have d : ∀ a c, j ≠ (a, k, c) ∨ ¬ (a = 2 ∨ a = 3 ∨ a = 4 ∨ a = 10 ∨ a = 11) := fun a c => by
        by_cases e : j = (a, k, c)
        · right
          intro z
          exact hj (by rw [e]; exact ⟨rfl, z⟩)
        · exact Or.inl e
      have dd : ∀ a c, (a = 2 ∨ a = 3 ∨ a = 4 ∨ a = 10 ∨ a = 11) → j ≠ (a, k, c) := fun a c ha => (d a c).resolve_right fun z => z ha
      rw [f1 j (dd 2 0 (by simp)) (dd 11 0 (by simp)), b2 j (dd 4 1 (by simp)) (dd 10 1 (by simp)), a2 j (dd 4 0 (by simp)) (dd 10 0 (by simp)), h4 j hj]
    have r0 : ∀ t, t < 40 → ρ (11, k, 0) t = τ (11, k', 0) t := fun t ht => by
      rw [← hρ]
      simp [px_up, px_cp, ht, e2]
    refine ⟨⟨?_, fun i hi q hq => ?_, dQ_c (f1 _ (by simp) (by simp)) (f1 _ (by simp) (by simp)) (dQ_c (b2 _ (by simp) (by simp)) (b2 _ (by simp) (by simp)) a1), dQ_c (f1 _ (by simp) (by simp)) (f1 _ (by simp) (by simp)) b1, ?_, ?_, ?_, ?_, ?_, ?_, fun t ht h4 => ?_, dCP_F F h.P⟩, F⟩
    · rw [← hρ]; simp [px_up, px_cp, e2, h2]
    · rw [f1 _ (by simp) (by simp), e2 _ (by simp) (by simp)]; exact h1 i hi q hq
    · rw [← hρ]; simp [px_up]
    · rw [← hρ]; simp [px_up]
    · rw [← hρ]; simp [px_up]
    · rw [← hρ]; simp [px_up]
    · rw [← hρ]; simp [px_up]
    · rw [← hρ]; simp [px_up]
    · rw [r0 _ (by omega)]; exact h3.li t ht h4
/-- a row of 308 at another place tells the same -/
theorem dMs_c {s s' : Nat → Int32} (hn : P.1 ≤ 12) (hw : B.2.1.length ≤ 12) (hr : B.2.2.1.length ≤ 12) (e : ∀ x, x < 308 → s' x = s x) (h : dMs s P B) : dMs s' P B :=
  ⟨fun i hi a ha => by have := dfl_lt a ha; rw [e _ (by omega)]; exact h.f i hi a ha, fun i hi => by rw [e _ (by omega)]; exact h.ro i hi, fun i hi => by rw [e _ (by omega)]; exact h.ag i hi, by rw [e _ (by omega)]; exact h.wl, fun t ht => by rw [e _ (by omega)]; exact h.wi t ht, by rw [e _ (by omega)]; exact h.rl, fun t ht => by rw [e _ (by omega)]; exact h.ri t ht, by rw [e _ (by omega)]; exact h.tick, by rw [e _ (by omega)]; exact h.mode, by rw [e _ (by omega)]; exact h.step, by rw [e _ (by omega)]; exact h.stay, by rw [e _ (by omega)]; exact h.total, by rw [e _ (by omega)]; exact h.lc, fun t ht h4 => by rw [e _ (by omega), e _ (by omega), e _ (by omega)]; exact h.lg t ht h4⟩
end F1
end
section
/-! the reference's rows copied -/
def dcpL (a b Na Nb : Nat) (v1 v3 : Int32) : (Int32 × pxS) → Option ((Int32 × pxS) ⊕ pxS) := fun s =>
  (if 308 ≤ s.1 then some (.inr s.2) else px_gd (v1 + s.1) Na (px_gd (v3 + s.1) Nb (px_l (px_up s.2 (1, b, 0) (v3 + s.1).toNatClampNeg (s.2 (1, a, 0) (v1 + s.1).toNatClampNeg)) fun σ3 =>
  some (.inl ((s.1 + 1), σ3)))))
def dcpQ (a b i k : Nat) (μ τ : pxS) : Prop := (∀ x, τ (1, b, 0) x = if k ≤ x ∧ x < k + 308 then μ (1, a, 0) (i + (x - k)) else μ (1, b, 0) x) ∧ ∀ j, j ≠ (1, b, 0) → τ j = μ j
section F2
variable {σ μ : pxS} {k p : Nat} {P : dP} {B : dB}
theorem dcopy {a b Na Nb i k : Nat} (hab : a ≠ b) (hi : i + 308 ≤ Na) (hk : k + 308 ≤ Nb) (hN : Na < 1000000 ∧ Nb < 1000000) : dw (px_b1 (px_it (dcpL a b Na Nb (dn i) (dn k)) px_N (0, μ)) fun e5 => some e5) (dcpQ a b i k μ) := by
  rw [dw_b1]
  refine dw_mono (P := dcpQ a b i k μ) ?_ fun τ h => dw_some.mpr h
  refine dw_up 308 (by unfold px_N; omega) (fun t s => s.1 = dn t ∧ (∀ x, s.2 (1, b, 0) x = if k ≤ x ∧ x < k + t then μ (1, a, 0) (i + (x - k)) else μ (1, b, 0) x) ∧ ∀ j, j ≠ (1, b, 0) → s.2 j = μ j) (fun t s ht hI => ?_) (fun s hI => ?_) (Nat.zero_le _) ⟨rfl, fun x => by rw [if_neg (by omega)], fun _ _ => rfl⟩
  · obtain ⟨v, τ⟩ := s
    obtain ⟨rfl, h1, h2⟩ := hI
    dsimp only at h1 h2
    unfold dcpL
    dsimp only
    rw [if_neg (by rw [show (308 : Int32) = dn 308 from rfl, dn_le (by omega) (by omega)]; omega), dn_add, dn_add]
    refine dw_gi (by omega) (by omega) (dw_gi (by omega) (by omega) ?_)
    rw [dn_nat (by omega), dn_nat (by omega)]
    simp only [dw_l, dw_some, dR_l]
    refine ⟨dn_suc t, fun x => ?_, fun j hj => ?_⟩
    · rw [px_up_du]
      by_cases e : x = k + t
      · subst e
        rw [du_eq, if_pos (by omega), h2 _ (by simp [hab])]
        congr 1
        omega
      · rw [du_ne e, h1]
        by_cases c : k ≤ x ∧ x < k + t
        · rw [if_pos c, if_pos (by omega)]
        · rw [if_neg c, if_neg (by omega)]
    · rw [← h2 j hj]
      funext x
      simp [px_up, hj]
  · obtain ⟨v, τ⟩ := s
    obtain ⟨rfl, h1, h2⟩ := hI
    unfold dcpL
    dsimp only
    rw [if_pos (by decide)]
    simp only [dw_some, dR_r]
    exact ⟨h1, h2⟩
theorem dcp_28_29 : dw (F_Mo_copies_28_29 μ 0 0) (dcpQ 28 29 0 0 μ) := dcopy (i := 0) (k := 0) (Na := 308) (Nb := 308) (by omega) (by omega) (by omega) (by omega)
theorem dcp_29_28 : dw (F_Mo_copies_29_28 μ 0 0) (dcpQ 29 28 0 0 μ) := dcopy (i := 0) (k := 0) (Na := 308) (Nb := 308) (by omega) (by omega) (by omega) (by omega)
theorem dcp_28_30 : dw (F_Mo_copies_28_30 μ 0 0) (dcpQ 28 30 0 0 μ) := dcopy (i := 0) (k := 0) (Na := 308) (Nb := 308) (by omega) (by omega) (by omega) (by omega)
theorem dcp_30_28 : dw (F_Mo_copies_30_28 μ 0 0) (dcpQ 30 28 0 0 μ) := dcopy (i := 0) (k := 0) (Na := 308) (Nb := 308) (by omega) (by omega) (by omega) (by omega)
theorem dcp_28_31 {t : Nat} (ht : t < 20) : dw (F_Mo_copies_28_31 μ 0 (308 * dn t)) (dcpQ 28 31 0 (308 * t) μ) := by
  rw [show (308 : Int32) = dn 308 from rfl, dn_mul]
  exact dcopy (i := 0) (k := 308 * t) (Na := 308) (Nb := 6160) (by omega) (by omega) (by omega) (by omega)
theorem dcp_31_28 {t : Nat} (ht : t < 20) : dw (F_Mo_copies_31_28 μ (308 * dn t) 0) (dcpQ 31 28 (308 * t) 0 μ) := by
  rw [show (308 : Int32) = dn 308 from rfl, dn_mul]
  exact dcopy (i := 308 * t) (k := 0) (Na := 6160) (Nb := 308) (by omega) (by omega) (by omega) (by omega)
theorem dshift : dw (px_it (Mo_remembers_L11) px_N (0, μ)) (fun τ => (∀ x, τ (1, 31, 0) x = if x < 5852 then μ (1, 31, 0) (308 + x) else μ (1, 31, 0) x) ∧ ∀ j, j ≠ (1, 31, 0) → τ j = μ j) := by
  refine dw_up 5852 (by unfold px_N; omega) (fun t s => s.1 = dn t ∧ (∀ x, s.2 (1, 31, 0) x = if x < t then μ (1, 31, 0) (308 + x) else μ (1, 31, 0) x) ∧ ∀ j, j ≠ (1, 31, 0) → s.2 j = μ j) (fun t s ht hI => ?_) (fun s hI => ?_) (Nat.zero_le _) ⟨rfl, fun x => by rw [if_neg (by omega)], fun _ _ => rfl⟩
  · obtain ⟨v, τ⟩ := s
    obtain ⟨rfl, h1, h2⟩ := hI
    dsimp only at h1 h2
    show dw (Mo_remembers_n11 τ (dn t)) _
    unfold Mo_remembers_n11
    rw [if_neg (by rw [show (5852 : Int32) = dn 5852 from rfl, dn_le (by omega) (by omega)]; omega), show (308 : Int32) + dn t = dn (308 + t) from dn_add 308 t]
    refine dw_gi (by omega) (by omega) (dw_gi (by omega) (by omega) ?_)
    rw [dn_nat (by omega), dn_nat (by omega)]
    simp only [dw_l, dw_some, dR_l]
    refine ⟨dn_suc t, fun x => ?_, fun j hj => ?_⟩
    · rw [px_up_du]
      by_cases e : x = t
      · subst e
        rw [du_eq, if_pos (by omega), h1, if_neg (by omega)]
      · rw [du_ne e, h1]
        by_cases c : x < t
        · rw [if_pos c, if_pos (by omega)]
        · rw [if_neg c, if_neg (by omega)]
    · rw [← h2 j hj]
      funext x
      simp [px_up, hj]
  · obtain ⟨v, τ⟩ := s
    obtain ⟨rfl, h1, h2⟩ := hI
    show dw (Mo_remembers_n11 τ (dn 5852)) _
    unfold Mo_remembers_n11
    rw [if_pos (by decide)]
    simp only [dw_some, dR_r]
    exact ⟨h1, h2⟩
end F2
/-! what both sides tell, together -/
def dWD (P : dP) : Prop := ∀ i, i < P.1 → ∀ j, j < 32 → db (P.2.2.2 8 i) j = true → j < P.1
def dRc (P : dP) (g : Nat) : Nat → Nat → Bool
  | 0, i => decide (i = g)
  | L + 1, i => dRc P g L i || (decide (i < P.1) && (List.range P.1).any fun o => db (P.2.2.2 8 i) o && dRc P g L o)
def dHop (P : dP) (g L i : Nat) : Bool := (List.range P.1).any fun o => db (P.2.2.2 8 i) o && dRc P g L o
/-- what hangs on what is closed -/
def dWC (P : dP) : Prop := ∀ i, i < P.1 → ∀ j, j < P.1 → (db (P.2.2.2 9 i) j = true ↔ ∃ L, dHop P j L i = true)
abbrev dWA (P : dP) : Prop := (dWP P) ∧ (dWS P) ∧ (dWV P) ∧ (dWH P) ∧ (dWN P) ∧ (dWK P) ∧ (dWD P) ∧ (dWC P)
theorem dWA.wp {P : dP} (h0 : dWA P) : dWP P := h0.1
theorem dWA.S {P : dP} (h0 : dWA P) : dWS P := h0.2.1
theorem dWA.V {P : dP} (h0 : dWA P) : dWV P := h0.2.2.1
theorem dWA.H {P : dP} (h0 : dWA P) : dWH P := h0.2.2.2.1
theorem dWA.N {P : dP} (h0 : dWA P) : dWN P := h0.2.2.2.2.1
theorem dWA.K {P : dP} (h0 : dWA P) : dWK P := h0.2.2.2.2.2.1
theorem dWA.D {P : dP} (h0 : dWA P) : dWD P := h0.2.2.2.2.2.2.1
theorem dWA.C {P : dP} (h0 : dWA P) : dWC P := h0.2.2.2.2.2.2.2
def dOK (P : dP) (T : Nat) (B : dB) : Prop := dSV P (64 * B.2.2.2.1) B ∧ dK P B ∧ B.2.2.2.1 ≤ T
theorem dOK_le {P : dP} {T T' : Nat} {B : dB} (h : dOK P T B) (hT : T ≤ T') : dOK P T' B := ⟨h.1, h.2.1, Nat.le_trans h.2.2 hT⟩
theorem dOK_pass {P : dP} {T : Nat} {B : dB} (W : dWA P) (h : dOK P T B) (hT : T < 90000) : dOK P (T + 1) (dPass P B) := by
  have ht := h.2.2
  obtain ⟨a, b, c⟩ := dK_pass W.wp W.S W.K h.1 h.2.1 (by omega)
  exact ⟨dSV_le b (by rw [c]; omega), a, by rw [c]; omega⟩
abbrev dI (σ μ : pxS) (P : dP) (p : Nat) (B : dB) (I : Option dB) (H : List dB) (f : Nat) : Prop := (dWA P) ∧ (p < 2) ∧ (σ (0, 0, 0) 6 = dn p) ∧ (σ (6, 0, 0) 0 = dn (1 - p)) ∧ (dC σ 1 p P B) ∧ (dM μ P B) ∧ (dOK P 9999 B) ∧ (σ (0, 0, 0) 10 = if I.isSome then 1 else 0) ∧ (μ (0, 0, 0) 33 = if I.isSome then 1 else 0) ∧ (∀ Bi, I = some Bi → dC σ 0 p P Bi ∧ dMs (μ (1, 30, 0)) P Bi ∧ dOK P 9999 Bi) ∧ (H.length ≤ 20) ∧ (f < 20) ∧ (σ (0, 0, 0) 11 = dn f) ∧ (σ (0, 0, 0) 12 = dn H.length) ∧ (μ (0, 0, 0) 32 = dn H.length) ∧ (∀ t (ht : t < H.length), dC σ ((f + t) % 20 + 3) p P H[t] ∧ dMs (fun x => μ (1, 31, 0) (308 * t + x)) P H[t] ∧ dOK P 9999 H[t]) ∧ (∃ n, n ≤ 700 ∧ σ (0, 0, 0) 7 = dn n ∧ μ (0, 0, 0) 2 = dn n ∧ ∀ t, t < n → ∃ c, c < 256 ∧ μ (1, 1, 0) t = dn c ∧ σ (5, 0, 0) t &&& 255 = dn c) ∧ (σ (0, 0, 0) 8 = μ (0, 0, 0) 24) ∧ (σ (0, 0, 0) 9 = μ (0, 0, 0) 25) ∧ (∀ k, k < 14 → ∀ τ, F_Re_lettersOf τ (dn k) = some (σ (12, 0, 0) k))
theorem dI.W {σ μ : pxS} {P : dP} {p : Nat} {B : dB} {I : Option dB} {H : List dB} {f : Nat} (h0 : dI σ μ P p B I H f) : dWA P := h0.1
theorem dI.pp {σ μ : pxS} {P : dP} {p : Nat} {B : dB} {I : Option dB} {H : List dB} {f : Nat} (h0 : dI σ μ P p B I H f) : p < 2 := h0.2.1
theorem dI.cp {σ μ : pxS} {P : dP} {p : Nat} {B : dB} {I : Option dB} {H : List dB} {f : Nat} (h0 : dI σ μ P p B I H f) : σ (0, 0, 0) 6 = dn p := h0.2.2.1
theorem dI.rp {σ μ : pxS} {P : dP} {p : Nat} {B : dB} {I : Option dB} {H : List dB} {f : Nat} (h0 : dI σ μ P p B I H f) : σ (6, 0, 0) 0 = dn (1 - p) := h0.2.2.2.1
theorem dI.C {σ μ : pxS} {P : dP} {p : Nat} {B : dB} {I : Option dB} {H : List dB} {f : Nat} (h0 : dI σ μ P p B I H f) : dC σ 1 p P B := h0.2.2.2.2.1
theorem dI.M {σ μ : pxS} {P : dP} {p : Nat} {B : dB} {I : Option dB} {H : List dB} {f : Nat} (h0 : dI σ μ P p B I H f) : dM μ P B := h0.2.2.2.2.2.1
theorem dI.ok {σ μ : pxS} {P : dP} {p : Nat} {B : dB} {I : Option dB} {H : List dB} {f : Nat} (h0 : dI σ μ P p B I H f) : dOK P 9999 B := h0.2.2.2.2.2.2.1
theorem dI.ik {σ μ : pxS} {P : dP} {p : Nat} {B : dB} {I : Option dB} {H : List dB} {f : Nat} (h0 : dI σ μ P p B I H f) : σ (0, 0, 0) 10 = if I.isSome then 1 else 0 := h0.2.2.2.2.2.2.2.1
theorem dI.im {σ μ : pxS} {P : dP} {p : Nat} {B : dB} {I : Option dB} {H : List dB} {f : Nat} (h0 : dI σ μ P p B I H f) : μ (0, 0, 0) 33 = if I.isSome then 1 else 0 := h0.2.2.2.2.2.2.2.2.1
theorem dI.i {σ μ : pxS} {P : dP} {p : Nat} {B : dB} {I : Option dB} {H : List dB} {f : Nat} (h0 : dI σ μ P p B I H f) : ∀ Bi, I = some Bi → dC σ 0 p P Bi ∧ dMs (μ (1, 30, 0)) P Bi ∧ dOK P 9999 Bi := h0.2.2.2.2.2.2.2.2.2.1
theorem dI.hl {σ μ : pxS} {P : dP} {p : Nat} {B : dB} {I : Option dB} {H : List dB} {f : Nat} (h0 : dI σ μ P p B I H f) : H.length ≤ 20 := h0.2.2.2.2.2.2.2.2.2.2.1
theorem dI.hf {σ μ : pxS} {P : dP} {p : Nat} {B : dB} {I : Option dB} {H : List dB} {f : Nat} (h0 : dI σ μ P p B I H f) : f < 20 := h0.2.2.2.2.2.2.2.2.2.2.2.1
theorem dI.pf {σ μ : pxS} {P : dP} {p : Nat} {B : dB} {I : Option dB} {H : List dB} {f : Nat} (h0 : dI σ μ P p B I H f) : σ (0, 0, 0) 11 = dn f := h0.2.2.2.2.2.2.2.2.2.2.2.2.1
theorem dI.pc {σ μ : pxS} {P : dP} {p : Nat} {B : dB} {I : Option dB} {H : List dB} {f : Nat} (h0 : dI σ μ P p B I H f) : σ (0, 0, 0) 12 = dn H.length := h0.2.2.2.2.2.2.2.2.2.2.2.2.2.1
theorem dI.uc {σ μ : pxS} {P : dP} {p : Nat} {B : dB} {I : Option dB} {H : List dB} {f : Nat} (h0 : dI σ μ P p B I H f) : μ (0, 0, 0) 32 = dn H.length := h0.2.2.2.2.2.2.2.2.2.2.2.2.2.2.1
theorem dI.h {σ μ : pxS} {P : dP} {p : Nat} {B : dB} {I : Option dB} {H : List dB} {f : Nat} (h0 : dI σ μ P p B I H f) : ∀ t (ht : t < H.length), dC σ ((f + t) % 20 + 3) p P H[t] ∧ dMs (fun x => μ (1, 31, 0) (308 * t + x)) P H[t] ∧ dOK P 9999 H[t] := h0.2.2.2.2.2.2.2.2.2.2.2.2.2.2.2.1
theorem dI.tl {σ μ : pxS} {P : dP} {p : Nat} {B : dB} {I : Option dB} {H : List dB} {f : Nat} (h0 : dI σ μ P p B I H f) : ∃ n, n ≤ 700 ∧ σ (0, 0, 0) 7 = dn n ∧ μ (0, 0, 0) 2 = dn n ∧ ∀ t, t < n → ∃ c, c < 256 ∧ μ (1, 1, 0) t = dn c ∧ σ (5, 0, 0) t &&& 255 = dn c := h0.2.2.2.2.2.2.2.2.2.2.2.2.2.2.2.2.1
theorem dI.fk {σ μ : pxS} {P : dP} {p : Nat} {B : dB} {I : Option dB} {H : List dB} {f : Nat} (h0 : dI σ μ P p B I H f) : σ (0, 0, 0) 8 = μ (0, 0, 0) 24 := h0.2.2.2.2.2.2.2.2.2.2.2.2.2.2.2.2.2.1
theorem dI.fp {σ μ : pxS} {P : dP} {p : Nat} {B : dB} {I : Option dB} {H : List dB} {f : Nat} (h0 : dI σ μ P p B I H f) : σ (0, 0, 0) 9 = μ (0, 0, 0) 25 := h0.2.2.2.2.2.2.2.2.2.2.2.2.2.2.2.2.2.2.1
theorem dI.wl {σ μ : pxS} {P : dP} {p : Nat} {B : dB} {I : Option dB} {H : List dB} {f : Nat} (h0 : dI σ μ P p B I H f) : ∀ k, k < 14 → ∀ τ, F_Re_lettersOf τ (dn k) = some (σ (12, 0, 0) k) := h0.2.2.2.2.2.2.2.2.2.2.2.2.2.2.2.2.2.2.2
def dInv (σ μ : pxS) : Prop := ∃ P p B I H f, dI σ μ P p B I H f
/-- what tries and readings may touch of the reference -/
def dGs (μ μ' : pxS) : Prop := (∀ a, a ≠ 28 → a ≠ 29 → a ≠ 34 → a ≠ 35 → a ≠ 36 → a ≠ 37 → a ≠ 39 → μ' (1, a, 0) = μ (1, a, 0)) ∧ ∀ q, q ≠ 0 → q ≠ 38 → q ≠ 40 → μ' (0, 0, 0) q = μ (0, 0, 0) q
theorem dGs_refl (μ : pxS) : dGs μ μ := ⟨fun _ _ _ _ _ _ _ _ => rfl, fun _ _ _ _ => rfl⟩
theorem dGs_trans {μ μ' μ'' : pxS} (h : dGs μ μ') (h' : dGs μ' μ'') : dGs μ μ'' := ⟨fun a h1 h2 h3 h4 h5 h6 h7 => (h'.1 a h1 h2 h3 h4 h5 h6 h7).trans (h.1 a h1 h2 h3 h4 h5 h6 h7), fun q h1 h2 h3 => (h'.2 q h1 h2 h3).trans (h.2 q h1 h2 h3)⟩
theorem dGs_3 {μ μ' : pxS} (h : dG3 μ μ') : dGs μ μ' := ⟨fun a h1 h2 h3 h4 h5 h6 h7 => h _ (by simp [h1]) (by simp [h3]) (by simp [h4]), fun q h1 h2 h3 => by rw [h _ (by simp) (by simp) (by simp)]⟩
theorem dMP_Gs {μ μ' : pxS} {P : dP} (hG : dGs μ μ') (h : dMP μ P) : dMP μ' P := by
  have e3 := hG.1 3 (by omega) (by omega) (by omega) (by omega) (by omega) (by omega) (by omega)
  have e : ∀ a, a < 28 → μ' (1, a, 0) = μ (1, a, 0) := fun a ha => hG.1 a (by omega) (by omega) (by omega) (by omega) (by omega) (by omega) (by omega)
  exact ⟨by rw [e3]; exact h.n, by rw [e3]; exact h.m, by rw [e3]; exact h.st, by rw [e3]; exact h.droop, by rw [e3]; exact h.fall, by rw [e3]; exact h.low, by rw [e3]; exact h.budget, by rw [e3]; exact h.seed, by rw [e3]; exact h.filter, by rw [e3]; exact h.times, by rw [e3]; exact h.hold, fun a ha i hi => by rw [e _ (by omega)]; exact h.a a ha i hi, fun i hi => by rw [e _ (by omega)]; exact h.dir i hi, fun i hi => by rw [e _ (by omega)]; exact h.hang i hi, fun a h1 h2 i hi => by rw [e _ (by omega)]; exact h.s a h1 h2 i hi⟩
theorem dC_F {σ σ' : pxS} {k k' p : Nat} {P : dP} {B : dB} (hk : k ≠ k') (hF : dF k σ σ') (h : dC σ k' p P B) : dC σ' k' p P B := by
  have g : ∀ j : pxI, j.2.1 = k' → σ' j = σ j := fun j hj => hF j fun z => hk (by rw [← z.1, hj])
  exact ⟨by rw [g _ rfl]; exact h.hp, fun i hi q hq => by rw [g _ rfl]; exact h.f i hi q hq, dQ_c (g _ rfl) (g _ rfl) h.w, dQ_c (g _ rfl) (g _ rfl) h.r, by rw [g _ rfl]; exact h.tick, by rw [g _ rfl]; exact h.total, by rw [g _ rfl]; exact h.mode, by rw [g _ rfl]; exact h.step, by rw [g _ rfl]; exact h.stay, by rw [g _ rfl]; exact h.ll, fun t ht h4 => by rw [g _ rfl]; exact h.li t ht h4, dCP_F hF h.P⟩
section F2b
variable {σ σ' μ μ' : pxS} {P : dP} {p f : Nat} {B B' : dB} {I : Option dB} {H : List dB}
/-- a try on board 2, the reference's row put back -/
theorem dI_try (h : dI σ μ P p B I H f) (hF : dF 2 σ σ') (hG : dGs μ μ') (hr : ∀ x, x < 308 → μ' (1, 28, 0) x = μ (1, 28, 0) x) : dI σ' μ' P p B I H f := by
  have e0 : ∀ q, σ' (0, 0, 0) q = σ (0, 0, 0) q := fun q => by rw [hF _ (by simp [dbk])]
  have m : ∀ q, q ≠ 0 → q ≠ 38 → q ≠ 40 → μ' (0, 0, 0) q = μ (0, 0, 0) q := hG.2
  have hw := dL_len h.ok.1.b.w
  have hrl := dL_len h.ok.1.b.r
  have hn := h.W.wp.n
  have a1 : ∀ a, a < 28 ∨ (29 < a ∧ a < 34) → μ' (1, a, 0) = μ (1, a, 0) := fun a ha => hG.1 a (by omega) (by omega) (by omega) (by omega) (by omega) (by omega) (by omega)
  refine ⟨h.W, h.pp, by rw [e0]; exact h.cp, by rw [hF _ (by simp [dbk])]; exact h.rp, dC_F (by omega) hF h.C, ⟨dMs_c hn (by omega) (by omega) hr h.M.s, dMP_Gs hG h.M.P⟩, h.ok, by rw [e0]; exact h.ik, by rw [m _ (by omega) (by omega) (by omega)]; exact h.im, fun Bi hi => ?_, h.hl, h.hf, by rw [e0]; exact h.pf, by rw [e0]; exact h.pc, by rw [m _ (by omega) (by omega) (by omega)]; exact h.uc, fun t ht => ?_, ?_, by rw [e0, m _ (by omega) (by omega) (by omega)]; exact h.fk, by rw [e0, m _ (by omega) (by omega) (by omega)]; exact h.fp, fun k hk τ => by rw [hF _ (by simp [dbk])]; exact h.wl k hk τ⟩
  · obtain ⟨g1, g2, g3⟩ := h.i Bi hi
    exact ⟨dC_F (by omega) hF g1, by rw [a1 30 (by omega)]; exact g2, g3⟩
  · obtain ⟨g1, g2, g3⟩ := h.h t ht
    exact ⟨dC_F (by omega) hF g1, by rw [a1 31 (by omega)]; exact g2, g3⟩
  · obtain ⟨n, n1, n2, n3, n4⟩ := h.tl
    exact ⟨n, n1, by rw [e0]; exact n2, by rw [m _ (by omega) (by omega) (by omega)]; exact n3, fun t ht => by rw [a1 1 (by omega), hF _ (by simp [dbk])]; exact n4 t ht⟩
theorem dGs_0 {q : Nat} {v : Int32} (hq : q = 0 ∨ q = 38 ∨ q = 40) : dGs μ (px_up μ (0, 0, 0) q v) :=
  ⟨fun a _ _ _ _ _ _ _ => by funext x; simp [px_up], fun x h1 h2 h3 => by
    have : x ≠ q := by omega
    simp [px_up, this]⟩
/-- the reference's mark of a throw -/
theorem dI_th {v : Int32} (h : dI σ μ P p B I H f) : dI σ (px_up μ (0, 0, 0) 0 v) P p B I H f :=
  dI_try h (dF_refl 2 σ) (dGs_0 (Or.inl rfl)) fun x _ => by simp [px_up]
end F2b
end
section
/-! numbers as they stand in 32 bits -/
def dv (x : Int32) : Nat := x.toBitVec.toNat
theorem dv_inj {x y : Int32} (h : dv x = dv y) : x = y := Int32.toBitVec_inj.mp (BitVec.toNat_inj.mp h)
theorem dv_dn {i : Nat} (h : i < 4294967296) : dv (dn i) = i := by
  show (BitVec.ofNat 32 i).toNat = i
  rw [BitVec.toNat_ofNat]
  omega
theorem dv_or (x y : Int32) : dv (x ||| y) = dv x ||| dv y := by unfold dv; rw [Int32.toBitVec_or, BitVec.toNat_or]
theorem dv_and (x y : Int32) : dv (x &&& y) = dv x &&& dv y := by unfold dv; rw [Int32.toBitVec_and, BitVec.toNat_and]
theorem dsm {k : Nat} (h : k < 32) : ((dn k).toBitVec.smod 32).toNat = k := by
  have : ∀ i : Fin 32, ((dn i.val).toBitVec.smod 32).toNat = i.val := by decide
  exact this ⟨k, h⟩
theorem dv_shl {x : Int32} {k : Nat} (h : k < 32) : dv (x <<< (dn k &&& 31)) = (dv x * 2 ^ k) % 4294967296 := by
  rw [db_m31 h]
  unfold dv
  rw [Int32.toBitVec_shiftLeft, BitVec.shiftLeft_eq', dsm h, BitVec.toNat_shiftLeft, Nat.shiftLeft_eq]
theorem dv_shr {x : Int32} {k : Nat} (h : k < 32) (hx : dv x < 2147483648) : dv (x >>> (dn k &&& 31)) = dv x / 2 ^ k := by
  rw [db_m31 h]
  unfold dv at *
  rw [Int32.toBitVec_shiftRight, BitVec.sshiftRight', dsm h, BitVec.toNat_sshiftRight, if_neg, Nat.shiftRight_eq_div_pow]
  intro e
  rw [BitVec.msb_eq_decide] at e
  simp at e
  omega
theorem dn_sar {a k : Nat} (h : k < 32) (ha : a < 2147483648) : dn a >>> (dn k &&& 31) = dn (a / 2 ^ k) := by
  apply dv_inj
  have : a / 2 ^ k ≤ a := Nat.div_le_self _ _
  rw [dv_shr h (by rw [dv_dn (by omega)]; exact ha), dv_dn (by omega), dv_dn (by omega)]
theorem dn_msk {a k : Nat} (h : k < 31) (ha : a < 2147483648) : dn a &&& dn (2 ^ k - 1) = dn (a % 2 ^ k) := by
  apply dv_inj
  have h1 : 2 ^ k ≤ 2 ^ 30 := Nat.pow_le_pow_right (by omega) (by omega)
  have h2 : a % 2 ^ k < 2 ^ k := Nat.mod_lt _ (Nat.two_pow_pos k)
  rw [dv_and, dv_dn (by omega), dv_dn (by omega), dv_dn (by omega), Nat.and_two_pow_sub_one_eq_mod]
/-- a line of the log, packed -/
theorem dpk_eq {a b w : Nat} (ha : a < 100000) (hb : b < 16) (hw : w < 8) : ((dn a <<< (7 &&& 31)) ||| (dn b <<< (3 &&& 31))) ||| dn w = dn (a * 128 + b * 8 + w) := by
  apply dv_inj
  rw [show (7 : Int32) = dn 7 from rfl, show (3 : Int32) = dn 3 from rfl, dv_or, dv_or, dv_shl (by omega), dv_shl (by omega), dv_dn (by omega), dv_dn (by omega), dv_dn (by omega), dv_dn (by omega)]
  rw [show a * 2 ^ 7 % 4294967296 = 2 ^ 7 * a by omega, show b * 2 ^ 3 % 4294967296 = 8 * b by omega]
  rw [← Nat.two_pow_add_eq_or_of_lt (i := 7) (b := 8 * b) (by omega), show 2 ^ 7 * a + 8 * b = 2 ^ 3 * (16 * a + b) by omega, ← Nat.two_pow_add_eq_or_of_lt (i := 3) (b := w) (by omega)]
  omega
theorem dpk_rd {e : Nat × Int32 × Int32} (h : dLn e) : dpk e >>> (7 &&& 31) = dn e.1 ∧ ((dpk e >>> (3 &&& 31)) &&& 15) + (-2) = e.2.1 ∧ dpk e &&& 7 = e.2.2 := by
  obtain ⟨a, r, w⟩ := e
  obtain ⟨h1, h2, x, h3, rfl⟩ := h
  dsimp only at h1 h2 ⊢
  obtain ⟨b, hb, er, er2⟩ : ∃ b, b < 16 ∧ r - (-2) = dn b ∧ r = dn b + (-2) := by
    rcases h2 with rfl | ⟨j, hj, rfl⟩
    · exact ⟨0, by omega, by decide, by decide⟩
    · refine ⟨j + 2, by omega, ?_, ?_⟩
      · rw [Int32.sub_eq_add_neg, show -(-2 : Int32) = dn 2 from rfl, dn_add]
      · rw [← dn_add, Int32.add_assoc]
        exact (Int32.add_zero _).symm
  have e : dpk (a, r, dn x) = dn (a * 128 + b * 8 + x) := by
    unfold dpk
    dsimp only
    rw [er]
    exact dpk_eq h1 hb h3
  rw [e, er2]
  refine ⟨?_, ?_, ?_⟩
  · rw [show (7 : Int32) = dn 7 from rfl, dn_sar (by omega) (by omega)]
    congr 1
    omega
  · rw [show (3 : Int32) = dn 3 from rfl, dn_sar (by omega) (by omega), show (15 : Int32) = dn (2 ^ 4 - 1) from rfl, dn_msk (by omega) (by omega)]
    congr 2
    omega
  · rw [show (7 : Int32) = dn (2 ^ 3 - 1) from rfl, dn_msk (by omega) (by omega)]
    congr 1
    omega
theorem dn_cases (v : Int32) : v < 0 ∨ ∃ i, i < 2147483648 ∧ v = dn i := by
  by_cases h : v < 0
  · exact Or.inl h
  · rw [Int32.lt_iff_toInt_lt] at h
    simp at h
    have := Int32.toInt_lt v
    exact Or.inr ⟨v.toNatClampNeg, by rw [Int32.toNatClampNeg]; omega, dn_of h⟩
end
section
/-! what stands -/
/-- the first of n numbers that is v; -1 -/
def dFd (g : Nat → Int32) (n : Nat) (v r : Int32) : Prop := (∃ i, i < n ∧ r = dn i ∧ g i = v ∧ ∀ j, j < i → g j ≠ v) ∨ (r = -1 ∧ ∀ j, j < n → g j ≠ v)
theorem dFd_1 {g : Nat → Int32} {n : Nat} {v r r' : Int32} (h : dFd g n v r) (h' : dFd g n v r') : r = r' := by
  rcases h with ⟨i, i1, i2, i3, i4⟩ | ⟨i1, i2⟩
  · rcases h' with ⟨j, j1, j2, j3, j4⟩ | ⟨j1, j2⟩
    · have : i = j := by
        rcases Nat.lt_trichotomy i j with c | c | c
        · exact absurd i3 (j4 i c)
        · exact c
        · exact absurd j3 (i4 j c)
      rw [i2, j2, this]
    · exact absurd i3 (j2 i i1)
  · rcases h' with ⟨j, j1, j2, j3, j4⟩ | ⟨j1, j2⟩
    · exact absurd j3 (i2 j j1)
    · rw [i1, j1]
theorem dFd_c {g g' : Nat → Int32} {n : Nat} {v r : Int32} (e : ∀ i, i < n → g i = g' i) (h : dFd g n v r) : dFd g' n v r := by
  rcases h with ⟨i, i1, i2, i3, i4⟩ | ⟨i1, i2⟩
  · exact Or.inl ⟨i, i1, i2, by rw [← e i i1]; exact i3, fun j hj => by rw [← e j (by omega)]; exact i4 j hj⟩
  · exact Or.inr ⟨i1, fun j hj => by rw [← e j hj]; exact i2 j hj⟩
theorem dPl_find {σ : pxS} {p n : Nat} {v : Int32} (hp : p < 2) (h : σ (1, p, 0) 0 = dn n) (hn : n ≤ 12) : dw (F_Pl_find σ (dn p) v) (dFd (σ (8, p, 0)) n v) := by
  unfold F_Pl_find
  rw [dw_b1]
  refine dw_mono (P := fun e : Nat × Int32 => dFd (σ (8, p, 0)) n v (if e.1 = 0 then e.2 else -1)) ?_ fun e he => ?_
  · refine dw_up n (by unfold px_N; omega) (fun t s => s = dn t ∧ ∀ j, j < t → σ (8, p, 0) j ≠ v) (fun t s ht hI => ?_) (fun s hI => ?_) (Nat.zero_le _) ⟨rfl, fun j hj => absurd hj (by omega)⟩
    · obtain ⟨rfl, h1⟩ := hI
      show dw (Pl_find_n2 σ (dn p) v (dn t)) _
      unfold Pl_find_n2
      rw [dn_nat (show p < 2147483648 by omega), h, if_neg (by rw [dn_le (by omega) (by omega)]; omega)]
      refine dw_gi (by omega) (by omega) ?_
      rw [dn_nat (by omega)]
      by_cases c : σ (8, p, 0) t = v
      · rw [if_pos c]
        simp only [dw_some, dR_r]
        rw [if_pos trivial]
        exact Or.inl ⟨t, ht, rfl, c, h1⟩
      · rw [if_neg c]
        simp only [dw_some, dR_l]
        refine ⟨dn_suc t, fun j hj => ?_⟩
        by_cases e : j = t
        · rw [e]; exact c
        · exact h1 j (by omega)
    · obtain ⟨rfl, h1⟩ := hI
      show dw (Pl_find_n2 σ (dn p) v (dn n)) _
      unfold Pl_find_n2
      rw [dn_nat (show p < 2147483648 by omega), h, if_pos (by rw [dn_le (by omega) (by omega)]; omega)]
      simp only [dw_some, dR_r]
      rw [if_neg (by decide)]
      exact Or.inr ⟨rfl, h1⟩
  · by_cases c : e.1 = 0
    · rw [if_pos c] at he ⊢; exact dw_some.mpr he
    · rw [if_neg c] at he ⊢; exact dw_some.mpr he
theorem dMo_named {μ : pxS} {b n : Nat} {v : Int32} (hb : b + n ≤ 24) : dw (F_Mo_namedAt μ (dn b) (dn n) v) (dFd (fun i => μ (1, 5, 0) (b + i)) n v) := by
  unfold F_Mo_namedAt
  rw [dw_b1]
  refine dw_mono (P := fun e : Nat × Int32 => dFd (fun i => μ (1, 5, 0) (b + i)) n v (if e.1 = 0 then e.2 else -1)) ?_ fun e he => ?_
  · refine dw_up n (by unfold px_N; omega) (fun t s => s = dn t ∧ ∀ j, j < t → μ (1, 5, 0) (b + j) ≠ v) (fun t s ht hI => ?_) (fun s hI => ?_) (Nat.zero_le _) ⟨rfl, fun j hj => absurd hj (by omega)⟩
    · obtain ⟨rfl, h1⟩ := hI
      show dw (Mo_namedAt_n3 μ (dn b) (dn n) v (dn t)) _
      unfold Mo_namedAt_n3
      rw [if_neg (by rw [dn_le (by omega) (by omega)]; omega), dn_add]
      refine dw_gi (by omega) (by omega) ?_
      rw [dn_nat (by omega)]
      by_cases c : μ (1, 5, 0) (b + t) = v
      · rw [if_pos c]
        simp only [dw_some, dR_r]
        rw [if_pos trivial]
        exact Or.inl ⟨t, ht, rfl, c, h1⟩
      · rw [if_neg c]
        simp only [dw_some, dR_l]
        refine ⟨dn_suc t, fun j hj => ?_⟩
        by_cases e : j = t
        · rw [e]; exact c
        · exact h1 j (by omega)
    · obtain ⟨rfl, h1⟩ := hI
      show dw (Mo_namedAt_n3 μ (dn b) (dn n) v (dn n)) _
      unfold Mo_namedAt_n3
      rw [if_pos (by rw [dn_le (by omega) (by omega)]; omega)]
      simp only [dw_some, dR_r]
      rw [if_neg (by decide)]
      exact Or.inr ⟨rfl, h1⟩
  · by_cases c : e.1 = 0
    · rw [if_pos c] at he ⊢; exact dw_some.mpr he
    · rw [if_neg c] at he ⊢; exact dw_some.mpr he
section F4
variable {σ μ : pxS} {P : dP} {p f : Nat} {B : dB} {I : Option dB} {H : List dB}
theorem px_b1_s {α β : Type} {a : α} {f : α → Option β} : px_b1 (some a) f = f a := rfl
theorem px_b2_s {α β γ : Type} {a : α × γ} {f : α → γ → Option β} : px_b2 (some a) f = f a.1 a.2 := rfl
def dGt (σ : pxS) (P : dP) (p : Nat) (B : dB) (I : Option dB) (H : List dB) (f : Nat) (X : Option Int32) (Y : Option (Int32 × pxS)) : Prop := dw X fun a => dw Y fun r => a = r.1 ∧ dI σ r.2 P p B I H f
theorem dGt_2 {a b : Int32} (e : a = b) (h : dI σ μ P p B I H f) : dGt σ P p B I H f (some a) (some (b, μ)) := dw_some.mpr (dw_some.mpr ⟨e, h⟩)
/-- a rail's number is told alike -/
theorem dIr (h : dI σ μ P p B I H f) (v : Int32) : (∃ i, i < P.1 ∧ v = dn i ∧ F_PR_isRail σ v = some 1 ∧ F_Mo_isRail μ v = some 1) ∨ ((∀ i, i < P.1 → v ≠ dn i) ∧ F_PR_isRail σ v = some 0 ∧ F_Mo_isRail μ v = some 0) := by
  have hn := h.W.wp.n
  have hp := h.pp
  unfold F_PR_isRail PR_isRail_n19 F_Mo_isRail Mo_isRail_n16
  rw [dM_n h.M, h.cp, dn_nat (show p < 2147483648 by omega), h.C.P.n]
  rcases dn_cases v with c | ⟨i, hi, rfl⟩
  · right
    refine ⟨fun i hi e => ?_, by rw [if_pos c], by rw [if_pos c]⟩
    rw [e] at c
    exact dn_nn (by omega) c
  · rw [if_neg (dn_nn hi), if_neg (dn_nn hi)]
    by_cases c : i < P.1
    · left
      exact ⟨i, c, rfl, by rw [if_neg (by rw [dn_le (by omega) (by omega)]; omega)], by
        show (if dn P.1 ≤ dn i then some (0 : Int32) else some 1) = some 1
        rw [if_neg (by rw [dn_le (by omega) (by omega)]; omega)]⟩
    · right
      refine ⟨fun j hj e => ?_, by rw [if_pos (by rw [dn_le (by omega) (by omega)]; omega)], by
        show (if dn P.1 ≤ dn i then some (0 : Int32) else some 1) = some 0
        rw [if_pos (by rw [dn_le (by omega) (by omega)]; omega)]⟩
      rw [dn_inj (by omega) (by omega)] at e
      omega
theorem dG_fault (h : dI σ μ P p B I H f) (v : Int32) : dGt σ P p B I H f (F_PR_fault σ v) (F_Mo_fault μ v) := by
  unfold F_PR_fault F_Mo_fault
  have h := dI_th (v := 0) h
  rw [px_l]
  generalize px_up μ (0, 0, 0) 0 0 = μ at h
  by_cases c : v = 0
  · rw [if_pos c, if_pos c]; exact dGt_2 h.fk h
  · rw [if_neg c, if_neg c]
    by_cases c1 : v = 1
    · rw [if_pos c1, if_pos c1]; exact dGt_2 h.fp h
    · rw [if_neg c1, if_neg c1]; exact dGt_2 rfl h
theorem dG_named (h : dI σ μ P p B I H f) (v : Int32) : dGt σ P p B I H f (F_PR_named σ v) (F_Mo_named μ v) := by
  unfold F_PR_named F_Mo_named
  have h := dI_th (v := 0) h
  rw [px_l]
  generalize px_up μ (0, 0, 0) 0 0 = μ at h
  have hn := h.W.wp.n
  rw [h.cp]
  refine dw_b1.mpr (dw_mono (dPl_find h.pp h.C.P.n hn) fun r hr => dw_some.mpr ?_)
  refine dw_v (dM_n h.M) (dw_b1.mpr (dw_mono (dMo_named (b := 0) (by omega)) fun r' hr' => dw_some.mpr ⟨?_, h⟩))
  exact dFd_1 (dFd_c (fun i hi => h.C.P.a 0 (by omega) i hi) hr) (dFd_c (fun i hi => by rw [Nat.zero_add]; exact h.M.P.a 0 (by omega) i hi) hr')
theorem dG_hangs (h : dI σ μ P p B I H f) (v w : Int32) : dGt σ P p B I H f (F_PR_hangs σ v w) (F_Mo_hangs μ v w) := by
  unfold F_PR_hangs F_Mo_hangs
  have h := dI_th (v := 0) h
  rw [px_l]
  generalize px_up μ (0, 0, 0) 0 0 = μ at h
  have hn := h.W.wp.n
  have hp := h.pp
  rw [h.cp, dn_nat (show p < 2147483648 by omega)]
  rcases dIr h v with ⟨i, hi, rfl, e1, e2⟩ | ⟨_, e1, e2⟩
  · rw [e1, e2, px_b1_s, px_b1_s, if_neg (show ¬ (1 : Int32) = 0 by decide), if_neg (show ¬ (1 : Int32) = 0 by decide), dn_nat (show i < 2147483648 by omega)]
    by_cases c0 : w = 0
    · rw [if_pos c0, if_pos c0]
      refine dw_gi (by omega) (by omega) (dw_some.mpr (dw_gi (by omega) (by omega) (dw_some.mpr ⟨?_, h⟩)))
      rw [h.C.P.a 7 (by omega) i hi, h.M.P.a 7 (by omega) i hi]
    · rw [if_neg c0, if_neg c0]
      by_cases c1 : w = 1
      · rw [if_pos c1, if_pos c1]
        refine dw_gi (by omega) (by omega) (dw_some.mpr (dw_gi (by omega) (by omega) (dw_some.mpr ⟨?_, h⟩)))
        rw [h.C.P.a 9 (by omega) i hi, h.M.P.hang i hi]
      · rw [if_neg c1, if_neg c1]
        by_cases c2 : w = 2
        · rw [if_pos c2, if_pos c2]
          refine dw_gi (by omega) (by omega) (dw_some.mpr (dw_v (dM_ho h.M hn h.W.H hi) (dw_some.mpr ⟨?_, h⟩)))
          rw [h.C.P.a 10 (by omega) i hi]
        · rw [if_neg c2, if_neg c2]; exact dGt_2 rfl h
  · rw [e1, e2]
    exact dGt_2 rfl h
theorem dG_waiting (h : dI σ μ P p B I H f) (v w : Int32) : dGt σ P p B I H f (F_PR_waiting σ v w) (F_Mo_waiting μ v w) := by
  unfold F_PR_waiting F_Mo_waiting
  have h := dI_th (v := 0) h
  rw [px_l]
  generalize px_up μ (0, 0, 0) 0 0 = μ at h
  have hn := h.W.wp.n
  have hwl := dL_len h.ok.1.b.w
  have hrl := dL_len h.ok.1.b.r
  rcases dn_cases v with c | ⟨i, hi, rfl⟩
  · rw [if_neg (Int32.not_le.mpr c), if_neg (Int32.not_le.mpr c)]; exact dGt_2 rfl h
  · have h0 : (0 : Int32) ≤ dn i := Int32.not_lt.mp (dn_nn hi)
    rw [if_pos h0, if_pos h0, h.M.s.wl, h.M.s.rl]
    by_cases c : w = 0
    · rw [if_pos c, if_pos c]
      by_cases c2 : i < B.2.1.length
      · refine dw_v (dC_at h.C.w (by omega) c2) (dw_some.mpr ?_)
        rw [if_neg (by rw [dn_le (by omega) (by omega)]; omega), show (156 : Int32) + 1 + dn i = dn (157 + i) from dn_add 157 i]
        refine dw_gi (by omega) (by omega) ?_
        rw [dn_nat (by omega), h.M.s.wi i c2]
        exact dw_some.mpr ⟨rfl, h⟩
      · refine dw_v (dC_at2 h.C.w (by omega) c2 hi) (dw_some.mpr ?_)
        rw [if_pos (by rw [dn_le (by omega) (by omega)]; omega)]
        exact dw_some.mpr ⟨rfl, h⟩
    · rw [if_neg c, if_neg c]
      by_cases c2 : i < B.2.2.1.length
      · refine dw_v (dC_at h.C.r (by omega) c2) (dw_some.mpr ?_)
        rw [if_neg (by rw [dn_le (by omega) (by omega)]; omega), show (169 : Int32) + 1 + dn i = dn (170 + i) from dn_add 170 i]
        refine dw_gi (by omega) (by omega) ?_
        rw [dn_nat (by omega), h.M.s.ri i c2]
        exact dw_some.mpr ⟨rfl, h⟩
      · refine dw_v (dC_at2 h.C.r (by omega) c2 hi) (dw_some.mpr ?_)
        rw [if_pos (by rw [dn_le (by omega) (by omega)]; omega)]
        exact dw_some.mpr ⟨rfl, h⟩
theorem dG_sequence (h : dI σ μ P p B I H f) (v : Int32) : dGt σ P p B I H f (F_PR_sequence σ v) (F_Mo_sequence μ v) := by
  unfold F_PR_sequence F_Mo_sequence
  have h := dI_th (v := 0) h
  rw [px_l]
  generalize px_up μ (0, 0, 0) 0 0 = μ at h
  rw [h.C.mode, h.C.step, h.C.stay, h.M.s.mode, h.M.s.step, h.M.s.stay]
  by_cases c : v = 0
  · rw [if_pos c, if_pos c]; exact dGt_2 rfl h
  · rw [if_neg c, if_neg c]
    by_cases c1 : v = 1
    · rw [if_pos c1, if_pos c1]; exact dGt_2 rfl h
    · rw [if_neg c1, if_neg c1]
      by_cases c2 : v = 2
      · rw [if_pos c2, if_pos c2]; exact dGt_2 rfl h
      · rw [if_neg c2, if_neg c2]; exact dGt_2 rfl h
theorem dG_step (h : dI σ μ P p B I H f) (v w : Int32) : dGt σ P p B I H f (F_PR_step σ v w) (F_Mo_step μ v w) := by
  unfold F_PR_step F_Mo_step PR_step_n15 Mo_step_n19
  have h := dI_th (v := 0) h
  rw [px_l]
  generalize px_up μ (0, 0, 0) 0 0 = μ at h
  have hst := h.W.wp.st
  have hp := h.pp
  rw [h.cp, dn_nat (show p < 2147483648 by omega), h.C.P.st, h.M.P.st]
  rcases dn_cases v with c | ⟨i, hi, rfl⟩
  · rw [if_pos c, if_pos c]; exact dGt_2 rfl h
  · rw [if_neg (dn_nn hi), if_neg (dn_nn hi)]
    by_cases c : i < P.2.2.1
    · have hc : dn i < dn P.2.2.1 := by rw [dn_lt (by omega) (by omega)]; exact c
      rw [if_pos hc, if_pos hc, dn_nat (by omega)]
      by_cases c0 : w = 0
      · rw [if_pos c0, if_pos c0]
        refine dw_gi (by omega) (by omega) (dw_some.mpr (dw_gi (by omega) (by omega) (dw_some.mpr ⟨?_, h⟩)))
        rw [h.C.P.s 11 (by omega) (by omega) i c, h.M.P.s 11 (by omega) (by omega) i c]
      · rw [if_neg c0, if_neg c0]
        by_cases c1 : w = 1
        · rw [if_pos c1, if_pos c1]
          refine dw_gi (by omega) (by omega) (dw_some.mpr (dw_gi (by omega) (by omega) (dw_some.mpr ⟨?_, h⟩)))
          rw [h.C.P.s 12 (by omega) (by omega) i c, h.M.P.s 12 (by omega) (by omega) i c]
        · rw [if_neg c1, if_neg c1]
          by_cases c2 : w = 2
          · rw [if_pos c2, if_pos c2]
            refine dw_gi (by omega) (by omega) (dw_some.mpr (dw_gi (by omega) (by omega) (dw_some.mpr ⟨?_, h⟩)))
            rw [h.C.P.s 13 (by omega) (by omega) i c, h.M.P.s 13 (by omega) (by omega) i c]
          · rw [if_neg c2, if_neg c2]; exact dGt_2 rfl h
    · have hc : ¬ dn i < dn P.2.2.1 := by rw [dn_lt (by omega) (by omega)]; exact c
      rw [if_neg hc, if_neg hc]
      exact dGt_2 rfl h
theorem dG_why (h : dI σ μ P p B I H f) (v : Int32) : dGt σ P p B I H f (F_PR_why σ v) (F_Mo_why μ v) := by
  unfold F_PR_why F_Mo_why
  have h := dI_th (v := 0) h
  rw [px_l]
  generalize px_up μ (0, 0, 0) 0 0 = μ at h
  have hn := h.W.wp.n
  have hp := h.pp
  rcases dIr h v with ⟨i, hi, rfl, e1, e2⟩ | ⟨_, e1, e2⟩
  · rw [e1, e2, px_b1_s, px_b1_s, if_neg (show ¬ (1 : Int32) = 0 by decide), if_neg (show ¬ (1 : Int32) = 0 by decide)]
    refine dw_gi (by omega) (by omega) ?_
    rw [dn_nat (show i < 2147483648 by omega), h.C.f i hi 2 (by omega)]
    by_cases c : B.1 i 2 = 1
    · rw [if_pos c]
      refine dw_v (dC_gm h.C h.W.wp hp) (dw_v (dC_hd h.C h.W.wp hp hi) (dw_some.mpr (dw_v (dM_state h.M hn hi) ?_)))
      rw [if_pos c]
      exact dw_v (dM_why h.M hn h.W.V h.W.N hi) (dw_some.mpr ⟨rfl, h⟩)
    · rw [if_neg c]
      refine dw_some.mpr (dw_v (dM_state h.M hn hi) ?_)
      rw [if_neg c]
      exact dw_some.mpr ⟨rfl, h⟩
  · rw [e1, e2]
    exact dGt_2 rfl h
theorem dG_total (h : dI σ μ P p B I H f) : dGt σ P p B I H f (F_PR_total σ) (F_Mo_total μ) := by
  unfold F_PR_total F_Mo_total
  have h := dI_th (v := 0) h
  rw [px_l]
  generalize px_up μ (0, 0, 0) 0 0 = μ at h
  exact dGt_2 (h.C.total.trans h.M.s.total.symm) h
theorem dC_lk {k : Nat} (h : dC σ k p P B) (hl : B.2.2.2.2.2.2.2.2.length < 1000000) : F_Bo_logKept σ k = some (dn (min B.2.2.2.2.2.2.2.2.length 40)) := by
  unfold F_Bo_logKept
  rw [h.ll]
  congr 1
  by_cases c : 40 < B.2.2.2.2.2.2.2.2.length
  · rw [if_pos (by rw [show (40 : Int32) = dn 40 from rfl, dn_lt (by omega) (by omega)]; exact c), show min B.2.2.2.2.2.2.2.2.length 40 = 40 by omega]; rfl
  · rw [if_neg (by rw [show (40 : Int32) = dn 40 from rfl, dn_lt (by omega) (by omega)]; exact c), show min B.2.2.2.2.2.2.2.2.length 40 = B.2.2.2.2.2.2.2.2.length by omega]
theorem dG_log (h : dI σ μ P p B I H f) (v w : Int32) : dGt σ P p B I H f (F_PR_log σ v w) (F_Mo_log μ v w) := by
  unfold F_PR_log F_Mo_log PR_log_n15 Mo_log_n47
  have h := dI_th (v := 0) h
  rw [px_l]
  generalize px_up μ (0, 0, 0) 0 0 = μ at h
  have hl := h.ok.1.l
  have ht := h.ok.2.2
  rcases dn_cases v with c | ⟨i, hi, rfl⟩
  · rw [if_pos c, if_pos c]; exact dGt_2 rfl h
  · rw [if_neg (dn_nn hi), if_neg (dn_nn hi)]
    refine dw_v (dC_lk h.C (by omega)) ?_
    rw [h.M.s.lc]
    by_cases c : i < min B.2.2.2.2.2.2.2.2.length 40
    · rw [if_pos (by rw [dn_lt (by omega) (by omega)]; exact c), if_neg (by rw [dn_le (by omega) (by omega)]; omega)]
      unfold F_Bo_logEntry
      rw [h.C.ll, show dn B.2.2.2.2.2.2.2.2.length - 1 - dn i = dn (B.2.2.2.2.2.2.2.2.length - 1 - i) from by rw [show (1 : Int32) = dn 1 from rfl, dn_sub (by omega), dn_sub (by omega)], floorMod40 (by omega)]
      refine dw_v (r := dpk B.2.2.2.2.2.2.2.2[i]) ?_ ?_
      · show px_gd (dn ((B.2.2.2.2.2.2.2.2.length - 1 - i) % 40)) 40 _ = _
        unfold px_gd
        rw [dn_nat (by omega), if_pos ⟨dn_nn (by omega), by omega⟩, h.C.li i (by omega) (by omega)]
      · obtain ⟨d1, d2, d3⟩ := dpk_rd (h.ok.2.1.g _ (List.getElem_mem (show i < B.2.2.2.2.2.2.2.2.length by omega)))
        obtain ⟨m1, m2, m3⟩ := h.M.s.lg i (by omega) (by omega)
        by_cases c0 : w = 0
        · subst c0
          rw [if_pos rfl, d1]
          refine dw_some.mpr ?_
          rw [if_neg (by decide), if_neg (by decide), show (188 : Int32) + 3 * dn i + 0 = dn (188 + 3 * i) from by rw [show (3 : Int32) = dn 3 from rfl, dn_mul, show (188 : Int32) = dn 188 from rfl, dn_add, Int32.add_zero]]
          refine dw_gi (by omega) (by omega) ?_
          rw [dn_nat (by omega), m1]
          exact dw_some.mpr ⟨rfl, h⟩
        · rw [if_neg c0]
          by_cases c1 : w = 1
          · subst c1
            rw [if_pos rfl, d2]
            refine dw_some.mpr ?_
            rw [if_neg (by decide), if_neg (by decide), show (188 : Int32) + 3 * dn i + 1 = dn (189 + 3 * i) from by rw [show (3 : Int32) = dn 3 from rfl, dn_mul, show (188 : Int32) = dn 188 from rfl, dn_add, dn_suc]; congr 1; omega]
            refine dw_gi (by omega) (by omega) ?_
            rw [dn_nat (by omega), m2]
            exact dw_some.mpr ⟨rfl, h⟩
          · rw [if_neg c1]
            by_cases c2 : w = 2
            · subst c2
              rw [if_pos rfl, d3]
              refine dw_some.mpr ?_
              rw [if_neg (by decide), if_neg (by decide), show (188 : Int32) + 3 * dn i + 2 = dn (190 + 3 * i) from by rw [show (3 : Int32) = dn 3 from rfl, dn_mul, show (188 : Int32) = dn 188 from rfl, dn_add, show (2 : Int32) = dn 2 from rfl, dn_add]; congr 1; omega]
              refine dw_gi (by omega) (by omega) ?_
              rw [dn_nat (by omega), m3]
              exact dw_some.mpr ⟨rfl, h⟩
            · rw [if_neg c2]
              refine dw_some.mpr ?_
              by_cases c3 : w < 0
              · rw [if_pos c3]; exact dw_some.mpr ⟨rfl, h⟩
              · rw [if_neg c3]
                have c4 : 2 < w := by
                  rcases dn_cases w with z | ⟨j, hj, rfl⟩
                  · exact absurd z c3
                  · have e0 : j ≠ 0 := fun e => c0 (by rw [e]; rfl)
                    have e1 : j ≠ 1 := fun e => c1 (by rw [e]; rfl)
                    have e2 : j ≠ 2 := fun e => c2 (by rw [e]; rfl)
                    rw [show (2 : Int32) = dn 2 from rfl, dn_lt (by omega) (by omega)]
                    omega
                rw [if_pos c4]; exact dw_some.mpr ⟨rfl, h⟩
    · rw [if_neg (by rw [dn_lt (by omega) (by omega)]; exact c), if_pos (by rw [dn_le (by omega) (by omega)]; omega)]
      exact dGt_2 rfl h
end F4
end
section
/-! counting those that are good -/
def dpc (x : Nat) : Nat := x % 2 + x / 2 % 2 + x / 4 % 2 + x / 8 % 2 + x / 16 % 2 + x / 32 % 2 + x / 64 % 2 + x / 128 % 2 + x / 256 % 2 + x / 512 % 2 + x / 1024 % 2 + x / 2048 % 2
theorem d4096 {Q : Nat → Prop} (h : ∀ a b : Fin 64, Q (64 * a.val + b.val)) {x : Nat} (hx : x < 4096) : Q x := by
  have := h ⟨x / 64, by omega⟩ ⟨x % 64, by omega⟩
  rw [show 64 * (x / 64) + x % 64 = x by omega] at this
  exact this
theorem dpc_s {x : Nat} (hx : x < 4096) : x ≠ 0 → dpc (x &&& (x - 1)) + 1 = dpc x ∧ x &&& (x - 1) < x :=
  d4096 (Q := fun x => x ≠ 0 → dpc (x &&& (x - 1)) + 1 = dpc x ∧ x &&& (x - 1) < x) (by decide +kernel) hx
theorem dbc0 {x : Nat} (hx : x < 4096) : F_In_bitCount (fun _ _ => 0) (dn x) = some (dn (dpc x)) :=
  d4096 (Q := fun x => F_In_bitCount (fun _ _ => 0) (dn x) = some (dn (dpc x))) (by decide +kernel) hx
theorem dbc {σ : pxS} {x : Nat} (hx : x < 4096) : F_In_bitCount σ (dn x) = some (dn (dpc x)) := dbc0 hx
/-- a set of the first 12 is a number below 4096 -/
theorem dset {x : Int32} (h : ∀ i, i < 32 → db x i = true → i < 12) : ∃ a, a < 4096 ∧ x = dn a := by
  have h1 : dv x < 2 ^ 12 := by
    apply Nat.lt_pow_two_of_testBit
    intro i hi
    show x.toBitVec.toNat.testBit i = false
    rw [BitVec.testBit_toNat]
    by_cases c : i < 32
    · cases e : db x i with
      | false => exact e
      | true => exact absurd (h i c e) (by omega)
    · exact db_big (by omega)
  refine ⟨dv x, h1, dv_inj ?_⟩
  rw [dv_dn]
  omega
theorem dgm_set {P : dP} {B : dB} (hn : P.1 ≤ 12) : ∃ a, a < 4096 ∧ dGm P B P.1 = dn a := dset fun i hi e => by
  rw [db_gm (by omega)] at e
  simp at e
  omega
section F5
variable {σ μ : pxS} {P : dP} {p f : Nat} {B : dB} {I : Option dB} {H : List dB}
theorem dM_many (h : dM μ P B) (hn : P.1 ≤ 12) : dw (F_Mo_goodMany μ) (fun r => ∃ a, a < 4096 ∧ dGm P B P.1 = dn a ∧ r = dn (dpc a)) := by
  obtain ⟨a, ha, ea⟩ := dgm_set (P := P) (B := B) hn
  unfold F_Mo_goodMany
  refine dw_v (dM_gm h hn) (dw_b1.mpr ?_)
  rw [ea]
  refine dw_mono (P := fun r => r = dn (dpc a)) ?_ fun r hr => dw_some.mpr ⟨a, ha, rfl, hr⟩
  refine dw_it (fun k s => ∃ x c, s.1 = dn c ∧ s.2 = dn x ∧ x ≤ k ∧ x < 4096 ∧ c + dpc x = dpc a) (fun k s hI => ?_) px_N a (0, dn a) (by unfold px_N; omega) ⟨a, 0, rfl, rfl, Nat.le_refl _, ha, by omega⟩
  obtain ⟨v1, v2⟩ := s
  obtain ⟨x, c, rfl, rfl, h1, h2, h3⟩ := hI
  show dw (Mo_goodMany_n7 μ (dn c) (dn x)) _
  unfold Mo_goodMany_n7
  by_cases e : x = 0
  · subst e
    rw [if_pos (by rfl)]
    simp only [dw_some, dR_r]
    rw [← h3]
    rfl
  · obtain ⟨p1, p2⟩ := dpc_s h2 e
    rw [if_neg (by rw [show (0 : Int32) = dn 0 from rfl, dn_inj (by omega) (by omega)]; exact e)]
    simp only [dw_some, dR_l]
    refine ⟨x &&& (x - 1), by omega, x &&& (x - 1), c + 1, dn_suc c, ?_, Nat.le_refl _, by omega, by omega⟩
    rw [show dn x - 1 = dn (x - 1) from dn_sub (j := 1) (by omega)]
    apply dv_inj
    rw [dv_and, dv_dn (by omega), dv_dn (by omega), dv_dn (by omega)]
theorem dG_count (h : dI σ μ P p B I H f) (v : Int32) : dGt σ P p B I H f (F_PR_count σ v) (F_Mo_count μ v) := by
  unfold F_PR_count F_Mo_count
  have h := dI_th (v := 0) h
  rw [px_l]
  generalize px_up μ (0, 0, 0) 0 0 = μ at h
  have hn := h.W.wp.n
  have hp := h.pp
  have hl := h.ok.1.l
  have ht := h.ok.2.2
  obtain ⟨nt, _, t1, t2, _⟩ := h.tl
  rw [h.cp, dn_nat (show p < 2147483648 by omega), h.C.P.n, h.C.P.m, h.C.P.st, h.C.tick, h.C.w.s, h.C.r.s, h.pc, t1, h.M.P.m, h.M.P.st, h.M.s.tick, h.M.s.wl, h.M.s.rl, h.M.s.lc, h.uc, t2]
  by_cases c : v = 0
  · rw [if_pos c, if_pos c, dM_n h.M]; exact dGt_2 rfl h
  rw [if_neg c, if_neg c]
  by_cases c : v = 1
  · rw [if_pos c, if_pos c]; exact dGt_2 rfl h
  rw [if_neg c, if_neg c]
  by_cases c : v = 2
  · rw [if_pos c, if_pos c]; exact dGt_2 rfl h
  rw [if_neg c, if_neg c]
  by_cases c : v = 3
  · rw [if_pos c, if_pos c]; exact dGt_2 rfl h
  rw [if_neg c, if_neg c]
  by_cases c : v = 4
  · rw [if_pos c, if_pos c]; exact dGt_2 rfl h
  rw [if_neg c, if_neg c]
  by_cases c : v = 5
  · rw [if_pos c, if_pos c]; exact dGt_2 rfl h
  rw [if_neg c, if_neg c]
  by_cases c : v = 6
  · rw [if_pos c, if_pos c]
    refine dw_v (dC_gm h.C h.W.wp hp) ?_
    obtain ⟨r, e, a, ha, ea, hr⟩ := dM_many h.M hn
    rw [ea]
    refine dw_v (dbc ha) (dw_some.mpr ?_)
    rw [e]
    exact dw_some.mpr ⟨hr.symm, h⟩
  rw [if_neg c, if_neg c]
  by_cases c : v = 7
  · rw [if_pos c, if_pos c]
    refine dw_v (dC_ts h.C hn hp) (dw_some.mpr ?_)
    exact dw_v (dM_ts h.M hn) (dw_some.mpr ⟨rfl, h⟩)
  rw [if_neg c, if_neg c]
  by_cases c : v = 8
  · rw [if_pos c, if_pos c]
    refine dw_v (dC_lk h.C (by omega)) (dw_some.mpr (dw_some.mpr ⟨rfl, h⟩))
  rw [if_neg c, if_neg c]
  by_cases c : v = 9
  · rw [if_pos c, if_pos c]; exact dGt_2 rfl h
  rw [if_neg c, if_neg c]
  by_cases c : v = 10
  · rw [if_pos c, if_pos c]; exact dGt_2 rfl h
  rw [if_neg c, if_neg c]
  exact dGt_2 rfl h
end F5
end
section
/-! what changes it -/
theorem dn_mod {x m : Nat} (hx : x < 2147483648) (hm : 0 < m) (hm2 : m < 2147483648) : dn x - dn x / dn m * dn m = dn (x % m) := by
  have h0 : x / m * m ≤ x := Nat.div_mul_le_self x m
  rw [dn_div hx hm2, dn_mul, dn_sub h0]
  congr 1
  have := Nat.div_add_mod x m
  rw [Nat.mul_comm] at this
  omega
section F6
variable {σ σ' μ μ' : pxS} {P : dP} {k p f : Nat} {B B' : dB} {I : Option dB} {H : List dB}
/-- what a board's telling rests on -/
theorem dC_e (hF : ∀ j : pxI, (j.2.1 = k ∧ (j.1 = 2 ∨ j.1 = 3 ∨ j.1 = 4 ∨ j.1 = 10 ∨ j.1 = 11)) ∨ (j.2.1 = p ∧ (j.1 = 1 ∨ j.1 = 8)) → σ' j = σ j) (h : dC σ k p P B) : dC σ' k p P B := by
  have h1 : σ' (1, p, 0) = σ (1, p, 0) := hF _ (by simp)
  have h8 : ∀ a, σ' (8, p, a) = σ (8, p, a) := fun a => hF _ (by simp)
  have h2 : σ' (2, k, 0) = σ (2, k, 0) := hF _ (by simp)
  refine ⟨by rw [h2]; exact h.hp, fun i hi q hq => by rw [hF _ (by simp)]; exact h.f i hi q hq, dQ_c (hF _ (by simp)) (hF _ (by simp)) h.w, dQ_c (hF _ (by simp)) (hF _ (by simp)) h.r, by rw [h2]; exact h.tick, by rw [h2]; exact h.total, by rw [h2]; exact h.mode, by rw [h2]; exact h.step, by rw [h2]; exact h.stay, by rw [h2]; exact h.ll, fun t ht h4 => by rw [hF _ (by simp)]; exact h.li t ht h4, ?_⟩
  have h := h.P
  exact ⟨by rw [h1]; exact h.n, by rw [h1]; exact h.m, by rw [h1]; exact h.st, fun a ha i hi => by rw [h8]; exact h.a a ha i hi, fun a h1 h2 i hi => by rw [h8]; exact h.s a h1 h2 i hi, fun i hi => by rw [h8]; exact h.e i hi⟩
theorem dC_0 {q : Nat} {v : Int32} (h : dC σ k p P B) : dC (px_up σ (0, 0, 0) q v) k p P B := dC_e (fun j hj => by
  have : j ≠ (0, 0, 0) := fun e => by rw [e] at hj; simp at hj
  funext x
  simp [px_up, this]) h
theorem up_0 {q q' : Nat} {v : Int32} : px_up σ (0, 0, 0) q v (0, 0, 0) q' = if q' = q then v else σ (0, 0, 0) q' := by
  simp [px_up]
theorem up_o {q : Nat} {v : Int32} {j : pxI} (h : j ≠ (0, 0, 0)) : px_up σ (0, 0, 0) q v j = σ j := by
  funext x
  simp [px_up, h]
/-- the row of 308 holds another board -/
theorem dI_bd (h : dI σ μ P p B I H f) (hF : dF 1 σ σ') (hG : dG3 μ μ') (hC : dC σ' 1 p P B') (hM : dM μ' P B') (ok : dOK P 9999 B') : dI σ' μ' P p B' I H f := by
  have e0 : σ' (0, 0, 0) = σ (0, 0, 0) := hF _ (by simp [dbk])
  have m0 : μ' (0, 0, 0) = μ (0, 0, 0) := hG _ (by simp) (by simp) (by simp)
  refine ⟨h.W, h.pp, by rw [e0]; exact h.cp, by rw [hF _ (by simp [dbk])]; exact h.rp, hC, hM, ok, by rw [e0]; exact h.ik, by rw [m0]; exact h.im, fun Bi hi => ?_, h.hl, h.hf, by rw [e0]; exact h.pf, by rw [e0]; exact h.pc, by rw [m0]; exact h.uc, fun t ht => ?_, ?_, by rw [e0, m0]; exact h.fk, by rw [e0, m0]; exact h.fp, fun k hk τ => by rw [hF _ (by simp [dbk])]; exact h.wl k hk τ⟩
  · obtain ⟨g1, g2, g3⟩ := h.i Bi hi
    exact ⟨dC_F (by omega) hF g1, by rw [hG _ (by simp) (by simp) (by simp)]; exact g2, g3⟩
  · obtain ⟨g1, g2, g3⟩ := h.h t ht
    exact ⟨dC_F (by omega) hF g1, by rw [hG _ (by simp) (by simp) (by simp)]; exact g2, g3⟩
  · obtain ⟨n, n1, n2, n3, n4⟩ := h.tl
    exact ⟨n, n1, by rw [e0]; exact n2, by rw [m0]; exact n3, fun t ht => by rw [hG _ (by simp) (by simp) (by simp), hF _ (by simp [dbk])]; exact n4 t ht⟩
theorem d_rem0 (h : dI σ μ P p B I H f) (hl : H.length < 20) : dw (PR_remember_n32 σ) fun σ' => dw (Mo_remembers_n50 μ) fun μ' => dI σ' μ' P p B I (H ++ [B]) f ∧ μ' (1, 28, 0) = μ (1, 28, 0) := by
  have hf := h.hf
  have hn := h.W.wp.n
  have hwl := dL_len h.ok.1.b.w
  have hrl := dL_len h.ok.1.b.r
  unfold PR_remember_n32 Mo_remembers_n50
  rw [h.pf, h.pc, dn_add, show (20 : Int32) = dn 20 from rfl, dn_mod (by omega) (by omega) (by omega)]
  refine dw_gi (by omega) (by omega) ?_
  rw [dn_nat (by omega)]
  have hk1 : (f + H.length) % 20 + 3 ≠ 1 := by omega
  refine dw_T (dT_cp h.C hk1 h.pp h.W.wp h.ok.1.b h.ok.2.1) fun σ1 g1 f1 => ?_
  rw [dw_l, dw_some, h.uc, dw_b1]
  refine dw_mono (dcp_28_31 hl) fun μ1 ⟨m1, m2⟩ => ?_
  rw [dw_l, dw_some]
  have e0 : σ1 (0, 0, 0) = σ (0, 0, 0) := f1 _ (by simp [dbk])
  have m0 : μ1 (0, 0, 0) = μ (0, 0, 0) := m2 _ (by simp)
  have c1 : dC σ1 1 p P B := dC_F hk1 f1 h.C
  have mP : dMP μ1 P := by
    have e : ∀ a, a < 28 → μ1 (1, a, 0) = μ (1, a, 0) := fun a ha => m2 _ (by simp; omega)
    have h := h.M.P
    exact ⟨by rw [e 3 (by omega)]; exact h.n, by rw [e 3 (by omega)]; exact h.m, by rw [e 3 (by omega)]; exact h.st, by rw [e 3 (by omega)]; exact h.droop, by rw [e 3 (by omega)]; exact h.fall, by rw [e 3 (by omega)]; exact h.low, by rw [e 3 (by omega)]; exact h.budget, by rw [e 3 (by omega)]; exact h.seed, by rw [e 3 (by omega)]; exact h.filter, by rw [e 3 (by omega)]; exact h.times, by rw [e 3 (by omega)]; exact h.hold, fun a ha i hi => by rw [e _ (by omega)]; exact h.a a ha i hi, fun i hi => by rw [e _ (by omega)]; exact h.dir i hi, fun i hi => by rw [e _ (by omega)]; exact h.hang i hi, fun a h1 h2 i hi => by rw [e _ (by omega)]; exact h.s a h1 h2 i hi⟩
  have mP2 : dMP (px_up μ1 (0, 0, 0) 32 (μ1 (0, 0, 0) 32 + 1)) P := by
    have h := mP
    have e : ∀ a, px_up μ1 (0, 0, 0) 32 (μ1 (0, 0, 0) 32 + 1) (1, a, 0) = μ1 (1, a, 0) := fun a => up_o (by simp)
    exact ⟨by rw [e]; exact h.n, by rw [e]; exact h.m, by rw [e]; exact h.st, by rw [e]; exact h.droop, by rw [e]; exact h.fall, by rw [e]; exact h.low, by rw [e]; exact h.budget, by rw [e]; exact h.seed, by rw [e]; exact h.filter, by rw [e]; exact h.times, by rw [e]; exact h.hold, fun a ha i hi => by rw [e]; exact h.a a ha i hi, fun i hi => by rw [e]; exact h.dir i hi, fun i hi => by rw [e]; exact h.hang i hi, fun a h1 h2 i hi => by rw [e]; exact h.s a h1 h2 i hi⟩
  have r28 : px_up μ1 (0, 0, 0) 32 (μ1 (0, 0, 0) 32 + 1) (1, 28, 0) = μ (1, 28, 0) := by rw [up_o (by simp), m2 _ (by simp)]
  refine ⟨⟨h.W, h.pp, by rw [up_0, if_neg (by omega), e0]; exact h.cp, by rw [up_o (by simp), f1 _ (by simp [dbk])]; exact h.rp, dC_0 c1, ⟨by rw [r28]; exact h.M.s, mP2⟩, h.ok, by rw [up_0, if_neg (by omega), e0]; exact h.ik, by rw [up_0, if_neg (by omega), m0]; exact h.im, fun Bi hi => ?_, by rw [List.length_append]; simp; omega, h.hf, by rw [up_0, if_neg (by omega), e0]; exact h.pf, by rw [up_0, if_pos rfl, e0, h.pc, List.length_append]; exact dn_suc _, by rw [up_0, if_pos rfl, m0, h.uc, List.length_append]; exact dn_suc _, fun t ht => ?_, ?_, by rw [up_0, if_neg (by omega), up_0, if_neg (by omega), e0, m0]; exact h.fk, by rw [up_0, if_neg (by omega), up_0, if_neg (by omega), e0, m0]; exact h.fp, fun k hk τ => by rw [up_o (by simp), f1 _ (by simp [dbk])]; exact h.wl k hk τ⟩, r28⟩
  · obtain ⟨g1, g2, g3⟩ := h.i Bi hi
    exact ⟨dC_0 (dC_F (by omega) f1 g1), by rw [up_o (by simp), m2 _ (by simp)]; exact g2, g3⟩
  · rw [List.length_append] at ht
    simp at ht
    by_cases c : t = H.length
    · subst c
      have ee : (H ++ [B])[H.length] = B := by simp
      rw [ee]
      refine ⟨dC_0 g1, dMs_c (s := μ (1, 28, 0)) hn (by omega) (by omega) (fun x hx => ?_) h.M.s, h.ok⟩
      rw [up_o (by simp), m1, if_pos (by omega)]
      congr 1
      omega
    · have ht' : t < H.length := by omega
      have ee : (H ++ [B])[t] = H[t] := List.getElem_append_left ht'
      rw [ee]
      obtain ⟨g1, g2, g3⟩ := h.h t ht'
      have hw2 := dL_len g3.1.b.w
      have hr2 := dL_len g3.1.b.r
      refine ⟨dC_0 (dC_F (by omega) f1 g1), dMs_c hn (by omega) (by omega) (fun x hx => ?_) g2, g3⟩
      rw [up_o (by simp), m1, if_neg (by omega)]
  · obtain ⟨n, n1, n2, n3, n4⟩ := h.tl
    exact ⟨n, n1, by rw [up_0, if_neg (by omega), e0]; exact n2, by rw [up_0, if_neg (by omega), m0]; exact n3, fun t ht => by rw [up_o (by simp), up_o (by simp), m2 _ (by simp), f1 _ (by simp [dbk])]; exact n4 t ht⟩
end F6
end
section
section F7
variable {σ σ' μ μ' : pxS} {P : dP} {k p f : Nat} {B B' : dB} {I : Option dB} {H : List dB}
theorem dMP_e (e : ∀ a, a < 28 → μ' (1, a, 0) = μ (1, a, 0)) (h : dMP μ P) : dMP μ' P :=
  ⟨by rw [e 3 (by omega)]; exact h.n, by rw [e 3 (by omega)]; exact h.m, by rw [e 3 (by omega)]; exact h.st, by rw [e 3 (by omega)]; exact h.droop, by rw [e 3 (by omega)]; exact h.fall, by rw [e 3 (by omega)]; exact h.low, by rw [e 3 (by omega)]; exact h.budget, by rw [e 3 (by omega)]; exact h.seed, by rw [e 3 (by omega)]; exact h.filter, by rw [e 3 (by omega)]; exact h.times, by rw [e 3 (by omega)]; exact h.hold, fun a ha i hi => by rw [e _ (by omega)]; exact h.a a ha i hi, fun i hi => by rw [e _ (by omega)]; exact h.dir i hi, fun i hi => by rw [e _ (by omega)]; exact h.hang i hi, fun a h1 h2 i hi => by rw [e _ (by omega)]; exact h.s a h1 h2 i hi⟩
theorem dC_00 {q q' : Nat} {v v' : Int32} (h : dC σ k p P B) : dC (px_up (px_up σ (0, 0, 0) q v) (0, 0, 0) q' v') k p P B := dC_0 (dC_0 h)
theorem d_rem (h : dI σ μ P p B I H f) : dw (F_PR_remember σ) fun σ' => dw (F_Mo_remembers μ) fun μ' => (∃ H' f', dI σ' μ' P p B I H' f') ∧ μ' (1, 28, 0) = μ (1, 28, 0) := by
  have hf := h.hf
  have hhl := h.hl
  have hn := h.W.wp.n
  unfold F_PR_remember F_Mo_remembers
  rw [h.pc, h.uc, h.pf]
  by_cases c : H.length = 20
  · have c20 : dn H.length = 20 := by rw [c]; rfl
    rw [if_pos c20, if_pos c20, dn_suc, show (20 : Int32) = dn 20 from rfl, dn_mod (by omega) (by omega) (by omega), dw_l, dw_l]
    rw [up_0, if_neg (by omega), h.pc]
    have ep : dn H.length - 1 = dn (H.length - 1) := dn_sub (j := 1) (by omega)
    rw [ep]
    obtain ⟨B0, H1, rfl⟩ : ∃ B0 H1, H = B0 :: H1 := by
      cases H with
      | nil => simp at c
      | cons a l => exact ⟨a, l, rfl⟩
    rw [List.length_cons] at c hhl ⊢
    obtain ⟨μ1, em, m1, m2⟩ := dshift (μ := μ)
    have mid : dI (px_up (px_up σ (0, 0, 0) 11 (dn ((f + 1) % 20))) (0, 0, 0) 12 (dn (H1.length + 1 - 1))) (px_up μ1 (0, 0, 0) 32 (μ1 (0, 0, 0) 32 - 1)) P p B I H1 ((f + 1) % 20) := by
      have m0 : μ1 (0, 0, 0) = μ (0, 0, 0) := m2 _ (by simp)
      refine ⟨h.W, h.pp, by rw [up_0, if_neg (by omega), up_0, if_neg (by omega)]; exact h.cp, by rw [up_o (by simp), up_o (by simp)]; exact h.rp, dC_00 h.C, ⟨by rw [up_o (by simp), m2 _ (by simp)]; exact h.M.s, dMP_e (fun a ha => by rw [up_o (by simp), m2 _ (by simp; omega)]) h.M.P⟩, h.ok, by rw [up_0, if_neg (by omega), up_0, if_neg (by omega)]; exact h.ik, by rw [up_0, if_neg (by omega), m0]; exact h.im, fun Bi hi => ?_, by omega, by omega, by rw [up_0, if_neg (by omega), up_0, if_pos rfl], by rw [up_0, if_pos rfl]; congr 1, ?_, fun t ht => ?_, ?_, by rw [up_0, if_neg (by omega), up_0, if_neg (by omega), up_0, if_neg (by omega), m0]; exact h.fk, by rw [up_0, if_neg (by omega), up_0, if_neg (by omega), up_0, if_neg (by omega), m0]; exact h.fp, fun k hk τ => by rw [up_o (by simp), up_o (by simp)]; exact h.wl k hk τ⟩
      · obtain ⟨g1, g2, g3⟩ := h.i Bi hi
        exact ⟨dC_00 g1, by rw [up_o (by simp), m2 _ (by simp)]; exact g2, g3⟩
      · rw [up_0, if_pos rfl, m0, h.uc, List.length_cons]
        exact dn_sub (j := 1) (by omega)
      · obtain ⟨g1, g2, g3⟩ := h.h (t + 1) (by rw [List.length_cons]; omega)
        rw [List.getElem_cons_succ] at g1 g2 g3
        have hw2 := dL_len g3.1.b.w
        have hr2 := dL_len g3.1.b.r
        refine ⟨?_, dMs_c hn (by omega) (by omega) (fun x hx => ?_) g2, g3⟩
        · have e : ((f + 1) % 20 + t) % 20 + 3 = (f + (t + 1)) % 20 + 3 := by omega
          rw [e]
          exact dC_00 g1
        · rw [up_o (by simp), m1, if_pos (by omega), show 308 + (308 * t + x) = 308 * (t + 1) + x by omega]
      · obtain ⟨n, n1, n2, n3, n4⟩ := h.tl
        exact ⟨n, n1, by rw [up_0, if_neg (by omega), up_0, if_neg (by omega)]; exact n2, by rw [up_0, if_neg (by omega), m0]; exact n3, fun t ht => by rw [up_o (by simp), up_o (by simp), up_o (by simp), m2 _ (by simp)]; exact n4 t ht⟩
    refine dw_mono (d_rem0 mid (by omega)) fun σ1 h1 => ?_
    rw [dw_b1]
    refine ⟨μ1, em, ?_⟩
    dsimp only
    rw [dw_l]
    refine dw_mono h1 fun μ2 ⟨h2, e2⟩ => ⟨⟨_, _, h2⟩, ?_⟩
    rw [e2, up_o (by simp), m2 _ (by simp)]
  · have c20 : ¬ dn H.length = 20 := by rw [show (20 : Int32) = dn 20 from rfl, dn_inj (by omega) (by omega)]; exact c
    rw [if_neg c20, if_neg c20]
    exact dw_mono (d_rem0 h (by omega)) fun σ1 h1 => dw_mono h1 fun μ2 ⟨h2, e2⟩ => ⟨⟨_, _, h2⟩, e2⟩
/-- both answer alike, and go on alike -/
def dSt (X Y : Option (Int32 × pxS)) : Prop := dw X fun r => dw Y fun r' => r.1 = r'.1 ∧ dInv r.2 r'.2
theorem dSt_2 {a b : Int32} (e : a = b) (h : dI σ μ P p B I H f) : dSt (some (a, σ)) (some (b, μ)) := dw_some.mpr (dw_some.mpr ⟨e, P, p, B, I, H, f, h⟩)
theorem dS_undo (h : dI σ μ P p B I H f) : dSt (F_PR_undo σ) (F_Mo_undo μ) := by
  unfold F_Mo_undo
  have h := dI_th (v := 0) h
  rw [px_l]
  generalize px_up μ (0, 0, 0) 0 0 = μ at h
  unfold F_PR_undo
  have hf := h.hf
  have hhl := h.hl
  have hn := h.W.wp.n
  rw [h.pc, h.uc]
  rcases List.eq_nil_or_concat H with rfl | ⟨H0, B0, hH⟩
  · rw [if_pos (show dn ([] : List dB).length = 0 from rfl), if_pos (show dn ([] : List dB).length = 0 from rfl)]
    exact dSt_2 rfl h
  · rw [List.concat_eq_append] at hH
    subst hH
    rw [List.length_append] at hhl ⊢
    simp only [List.length_cons, List.length_nil] at hhl ⊢
    have c : ¬ dn (H0.length + (0 + 1)) = 0 := by rw [show (0 : Int32) = dn 0 from rfl, dn_inj (by omega) (by omega)]; omega
    have e1 : dn (H0.length + (0 + 1)) - 1 = dn H0.length := dn_sub (i := H0.length + (0 + 1)) (j := 1) (by omega)
    rw [if_neg c, if_neg c, e1, dSt, dw_l, up_0, if_neg (by omega), up_0, if_pos rfl, h.pf, dn_add, show (20 : Int32) = dn 20 from rfl, dn_mod (by omega) (by omega) (by omega)]
    refine dw_gi (by omega) (by omega) ?_
    rw [dn_nat (by omega)]
    obtain ⟨g1, g2, g3⟩ := h.h H0.length (by rw [List.length_append]; simp)
    have ee : (H0 ++ [B0])[H0.length]'(by simp) = B0 := by simp
    rw [ee] at g1 g2 g3
    have hw2 := dL_len g3.1.b.w
    have hr2 := dL_len g3.1.b.r
    refine dw_T (dT_cp (dC_0 (q := 12) (v := dn H0.length) g1) (show 1 ≠ (f + H0.length) % 20 + 3 by omega) h.pp h.W.wp g3.1.b g3.2.1) fun σ1 k1 f1 => ?_
    rw [dw_some, dw_l]
    have u32 : px_up μ (0, 0, 0) 32 (dn H0.length) (0, 0, 0) 32 = dn H0.length := by rw [up_0, if_pos rfl]
    rw [u32, dw_b1]
    refine dw_mono (dcp_31_28 (show H0.length < 20 by omega)) fun μ1 ⟨m1, m2⟩ => dw_some.mpr ?_
    have m0 : μ1 (0, 0, 0) = px_up μ (0, 0, 0) 32 (dn H0.length) (0, 0, 0) := m2 _ (by simp)
    have e0 : σ1 (0, 0, 0) = px_up σ (0, 0, 0) 12 (dn H0.length) (0, 0, 0) := f1 _ (by simp [dbk])
    refine ⟨by rw [m0, e0, up_0, up_0, if_pos rfl, if_pos rfl], P, p, B0, I, H0, f, ?_⟩
    dsimp only
    refine ⟨h.W, h.pp, by rw [e0, up_0, if_neg (by omega)]; exact h.cp, by rw [f1 _ (by simp [dbk]), up_o (by simp)]; exact h.rp, k1, ⟨dMs_c hn (by omega) (by omega) (fun x hx => ?_) g2, dMP_e (fun a ha => by rw [m2 _ (by simp; omega), up_o (by simp)]) h.M.P⟩, g3, by rw [e0, up_0, if_neg (by omega)]; exact h.ik, by rw [m0, up_0, if_neg (by omega)]; exact h.im, fun Bi hi => ?_, by omega, by omega, by rw [e0, up_0, if_neg (by omega)]; exact h.pf, by rw [e0, up_0, if_pos rfl], by rw [m0, up_0, if_pos rfl], fun t ht => ?_, ?_, by rw [e0, m0, up_0, if_neg (by omega), up_0, if_neg (by omega)]; exact h.fk, by rw [e0, m0, up_0, if_neg (by omega), up_0, if_neg (by omega)]; exact h.fp, fun k hk τ => by rw [f1 _ (by simp [dbk]), up_o (by simp)]; exact h.wl k hk τ⟩
    · rw [m1, if_pos (by omega), up_o (by simp)]
      rfl
    · obtain ⟨g1, g2, g3⟩ := h.i Bi hi
      exact ⟨dC_F (by omega) f1 (dC_0 g1), by rw [m2 _ (by simp), up_o (by simp)]; exact g2, g3⟩
    · obtain ⟨g1, g2, g3⟩ := h.h t (by rw [List.length_append]; omega)
      have ee : (H0 ++ [B0])[t]'(by rw [List.length_append]; omega) = H0[t] := List.getElem_append_left ht
      rw [ee] at g1 g2 g3
      exact ⟨dC_F (by omega) f1 (dC_0 g1), by rw [m2 _ (by simp), up_o (by simp)]; exact g2, g3⟩
    · obtain ⟨n, n1, n2, n3, n4⟩ := h.tl
      exact ⟨n, n1, by rw [e0, up_0, if_neg (by omega)]; exact n2, by rw [m0, up_0, if_neg (by omega)]; exact n3, fun t ht => by rw [m2 _ (by simp), up_o (by simp), f1 _ (by simp [dbk]), up_o (by simp)]; exact n4 t ht⟩
theorem dS_keep (h : dI σ μ P p B I H f) : dSt (F_PR_keep σ) (F_Mo_keep μ) := by
  unfold F_Mo_keep
  have h := dI_th (v := 0) h
  rw [px_l]
  generalize px_up μ (0, 0, 0) 0 0 = μ at h
  unfold F_PR_keep
  have hn := h.W.wp.n
  have hw2 := dL_len h.ok.1.b.w
  have hr2 := dL_len h.ok.1.b.r
  refine dw_T (dT_cp h.C (show 0 ≠ 1 by omega) h.pp h.W.wp h.ok.1.b h.ok.2.1) fun σ1 k1 f1 => ?_
  rw [dw_l, dw_some, dw_b1]
  refine dw_mono dcp_28_30 fun μ1 ⟨m1, m2⟩ => ?_
  rw [dw_l, dw_some]
  have m0 : μ1 (0, 0, 0) = μ (0, 0, 0) := m2 _ (by simp)
  have e0 : σ1 (0, 0, 0) = σ (0, 0, 0) := f1 _ (by simp [dbk])
  have c1 : dC σ1 1 p P B := dC_F (by omega) f1 h.C
  refine ⟨by rw [up_o (by simp), up_o (by simp), c1.tick, m2 _ (by simp), h.M.s.tick], P, p, B, some B, H, f, ?_⟩
  dsimp only
  refine ⟨h.W, h.pp, by rw [up_0, if_neg (by omega), e0]; exact h.cp, by rw [up_o (by simp), f1 _ (by simp [dbk])]; exact h.rp, dC_0 c1, ⟨by rw [up_o (by simp), m2 _ (by simp)]; exact h.M.s, dMP_e (fun a ha => by rw [up_o (by simp), m2 _ (by simp; omega)]) h.M.P⟩, h.ok, by rw [up_0, if_pos rfl]; rfl, by rw [up_0, if_pos rfl]; rfl, fun Bi hi => ?_, h.hl, h.hf, by rw [up_0, if_neg (by omega), e0]; exact h.pf, by rw [up_0, if_neg (by omega), e0]; exact h.pc, by rw [up_0, if_neg (by omega), m0]; exact h.uc, fun t ht => ?_, ?_, by rw [up_0, if_neg (by omega), up_0, if_neg (by omega), e0, m0]; exact h.fk, by rw [up_0, if_neg (by omega), up_0, if_neg (by omega), e0, m0]; exact h.fp, fun k hk τ => by rw [up_o (by simp), f1 _ (by simp [dbk])]; exact h.wl k hk τ⟩
  · cases hi
    refine ⟨dC_0 k1, dMs_c hn (by omega) (by omega) (fun x hx => ?_) h.M.s, h.ok⟩
    rw [up_o (by simp), m1, if_pos (by omega)]
    congr 1
    omega
  · obtain ⟨g1, g2, g3⟩ := h.h t ht
    exact ⟨dC_0 (dC_F (by omega) f1 g1), by rw [up_o (by simp), m2 _ (by simp)]; exact g2, g3⟩
  · obtain ⟨n, n1, n2, n3, n4⟩ := h.tl
    exact ⟨n, n1, by rw [up_0, if_neg (by omega), e0]; exact n2, by rw [up_0, if_neg (by omega), m0]; exact n3, fun t ht => by rw [up_o (by simp), up_o (by simp), m2 _ (by simp), f1 _ (by simp [dbk])]; exact n4 t ht⟩
theorem dS_back (h : dI σ μ P p B I H f) : dSt (F_PR_back σ) (F_Mo_back μ) := by
  unfold F_Mo_back
  have h := dI_th (v := 0) h
  rw [px_l]
  generalize px_up μ (0, 0, 0) 0 0 = μ at h
  unfold F_PR_back F_PR_forgetPast
  have hn := h.W.wp.n
  rw [h.ik, h.im]
  cases I with
  | none => exact dSt_2 rfl h
  | some Bi =>
    have c : ¬ (if (some Bi : Option dB).isSome = true then (1 : Int32) else 0) = 0 := by simp
    rw [if_neg c, if_neg c]
    obtain ⟨g1, g2, g3⟩ := h.i Bi rfl
    have hw2 := dL_len g3.1.b.w
    have hr2 := dL_len g3.1.b.r
    refine dw_T (dT_cp g1 (show 1 ≠ 0 by omega) h.pp h.W.wp g3.1.b g3.2.1) fun σ1 k1 f1 => ?_
    rw [dw_b1, dw_l, dw_l, dw_some, dw_some, dw_b1]
    refine dw_mono dcp_30_28 fun μ1 ⟨m1, m2⟩ => ?_
    rw [dw_l, dw_some]
    have m0 : μ1 (0, 0, 0) = μ (0, 0, 0) := m2 _ (by simp)
    have e0 : σ1 (0, 0, 0) = σ (0, 0, 0) := f1 _ (by simp [dbk])
    have s1 : dMs (μ1 (1, 28, 0)) P Bi := dMs_c hn (by omega) (by omega) (fun x hx => by rw [m1, if_pos (by omega)]; congr 1; omega) g2
    refine ⟨by rw [up_o (by simp), up_o (by simp), k1.tick, up_o (by simp), s1.tick], P, p, Bi, some Bi, [], 0, ?_⟩
    dsimp only
    refine ⟨h.W, h.pp, by rw [up_0, if_neg (by omega), up_0, if_neg (by omega), e0]; exact h.cp, by rw [up_o (by simp), up_o (by simp), f1 _ (by simp [dbk])]; exact h.rp, dC_00 k1, ⟨by rw [up_o (by simp)]; exact s1, dMP_e (fun a ha => by rw [up_o (by simp), m2 _ (by simp; omega)]) h.M.P⟩, g3, by rw [up_0, if_neg (by omega), up_0, if_neg (by omega), e0]; exact h.ik, by rw [up_0, if_neg (by omega), m0]; exact h.im, fun Bi' hi => ?_, by simp, by omega, by rw [up_0, if_neg (by omega), up_0, if_pos rfl]; rfl, by rw [up_0, if_pos rfl]; rfl, by rw [up_0, if_pos rfl]; rfl, fun t ht => absurd ht (by simp), ?_, by rw [up_0, if_neg (by omega), up_0, if_neg (by omega), up_0, if_neg (by omega), e0, m0]; exact h.fk, by rw [up_0, if_neg (by omega), up_0, if_neg (by omega), up_0, if_neg (by omega), e0, m0]; exact h.fp, fun k hk τ => by rw [up_o (by simp), up_o (by simp), f1 _ (by simp [dbk])]; exact h.wl k hk τ⟩
    · cases hi
      exact ⟨dC_00 (dC_F (by omega) f1 g1), by rw [up_o (by simp), m2 _ (by simp)]; exact g2, g3⟩
    · obtain ⟨n, n1, n2, n3, n4⟩ := h.tl
      exact ⟨n, n1, by rw [up_0, if_neg (by omega), up_0, if_neg (by omega), e0]; exact n2, by rw [up_0, if_neg (by omega), m0]; exact n3, fun t ht => by rw [up_o (by simp), up_o (by simp), up_o (by simp), m2 _ (by simp), f1 _ (by simp [dbk])]; exact n4 t ht⟩
end F7
end
section
def dPn (P : dP) : Nat → dB → dB
  | 0, B => B
  | n + 1, B => dPass P (dPn P n B)
section F8
variable {σ σ' μ μ' : pxS} {P : dP} {k p f : Nat} {B B' : dB} {I : Option dB} {H : List dB}
theorem dPass_tk {T : Nat} (W : dWA P) (h : dOK P T B) (hT : T < 90000) : (dPass P B).2.2.2.1 = B.2.2.2.1 + 1 :=
  (dK_pass W.wp W.S W.K h.1 h.2.1 (by have := h.2.2; omega)).2.2
theorem dPn_ok {T : Nat} (W : dWA P) (h : dOK P T B) : ∀ n, T + n < 90000 → dOK P (T + n) (dPn P n B) ∧ (dPn P n B).2.2.2.1 = B.2.2.2.1 + n := by
  intro n
  induction n with
  | zero => intro _; exact ⟨h, rfl⟩
  | succ n ih =>
    intro hT
    obtain ⟨h1, h2⟩ := ih (by omega)
    have h3 := dOK_pass W h1 (show T + n < 90000 by omega)
    have h4 := dPass_tk W h1 (show T + n < 90000 by omega)
    exact ⟨h3, h4.trans (by omega)⟩
theorem dT_p {T : Nat} (h : dC σ k p P B) (W : dWA P) (hp : p < 2) (ok : dOK P T B) (hT : T ≤ 10900) : dT σ k p P (F_Bo_pass σ k) (dPass P B) := by
  have ht := ok.2.2
  exact dT_pass h W.wp W.S W.V hp (dSV_le ok.1 (by omega)) (by omega)
theorem dU_p {T : Nat} (h : dM μ P B) (W : dWA P) (ok : dOK P T B) (hT : T ≤ 10900) : dw (F_Mo_tickGoes μ) (fun τ => dM τ P (dPass P B) ∧ dG3 μ τ) := by
  have ht := ok.2.2
  exact dU_pass h W.wp W.S W.V W.H W.N W.K (dSV_le ok.1 (by omega)) ok.2.1 (by omega)
theorem dSV_ask {L i : Nat} {off : Bool} (h : dSV P L B) (hi : i < P.1) : dSV P L (dAsk P B i off) := by
  obtain ⟨h1, h2, h3, h4, h5, h6⟩ := dAsk_n (P := P) (B := B) (i := i) (off := off)
  exact ⟨dWB_ask h.b hi, by rw [h4]; exact h.s, by rw [h1]; exact h.l, by rw [h2]; exact h.m, by rw [h5]; exact h.y, by unfold dSy; rw [h2, h4, h5]; exact h.z⟩
theorem dOK_ask {T i : Nat} {off : Bool} (h : dOK P T B) (hi : i < P.1) : dOK P T (dAsk P B i off) := by
  have ht := (dAsk_n (P := P) (B := B) (i := i) (off := off)).2.2.1
  exact ⟨by rw [ht]; exact dSV_ask h.1 hi, dK_ask h.2.1, by rw [ht]; exact h.2.2⟩
theorem dS_ask (h : dI σ μ P p B I H f) (v : Int32) (off : Bool) : dSt (F_PR_ask σ v (if off then 1 else 0)) (F_Mo_ask μ v (if off then 1 else 0)) := by
  unfold F_PR_ask F_Mo_ask
  have h := dI_th (v := 0) h
  rw [px_l]
  generalize px_up μ (0, 0, 0) 0 0 = μ at h
  have hn := h.W.wp.n
  rcases dIr h v with ⟨i, hi, rfl, e1, e2⟩ | ⟨_, e1, e2⟩
  · rw [e1, e2, px_b1_s, px_b1_s, if_neg (show ¬ (1 : Int32) = 0 by decide), if_neg (show ¬ (1 : Int32) = 0 by decide)]
    rw [dSt, dw_b1]
    refine dw_mono (d_rem h) fun σ1 hh => ?_
    obtain ⟨μ1, em, ⟨H', f', h1⟩, _⟩ := hh
    refine dw_T (dT_ask h1.C h1.W.wp h1.pp h1.ok.1.b hi) fun σ2 k2 f2 => dw_gi (by omega) (by omega) (dw_some.mpr ?_)
    rw [dw_b1]
    refine ⟨μ1, em, ?_⟩
    refine du_T (dU_ask h1.M h1.ok.1.b hn h1.W.H hi) fun μ2 m2 g2 => dw_v (dM_state m2 hn hi) (dw_some.mpr ?_)
    refine ⟨?_, P, p, _, I, H', f', dI_bd h1 f2 (dG3_of g2) k2 m2 (dOK_ask h1.ok hi)⟩
    rw [dn_nat (by omega)]
    exact k2.f i hi 2 (by omega)
  · rw [e1, e2]
    exact dSt_2 rfl h
theorem dS_begin (h : dI σ μ P p B I H f) : dSt (F_PR_begin σ) (F_Mo_begin μ) := by
  unfold F_Mo_begin
  have h := dI_th (v := 0) h
  rw [px_l]
  generalize px_up μ (0, 0, 0) 0 0 = μ at h
  unfold F_PR_begin F_Bo_runFromFirst
  have hn := h.W.wp.n
  have hst := h.W.wp.st
  have hp := h.pp
  rw [h.cp, dn_nat (show p < 2147483648 by omega), h.C.P.st, h.M.P.st, h.C.mode, h.M.s.mode]
  by_cases c : P.2.2.1 = 0
  · have hc : dn P.2.2.1 = 0 := by rw [c]; rfl
    rw [if_pos hc, if_pos hc]; exact dSt_2 rfl h
  · have hc : ¬ dn P.2.2.1 = 0 := by rw [show (0 : Int32) = dn 0 from rfl, dn_inj (by omega) (by omega)]; exact c
    rw [if_neg hc, if_neg hc]
    by_cases c1 : dn B.2.2.2.2.2.1 = 1
    · rw [if_pos c1, if_pos c1]; exact dSt_2 rfl h
    · rw [if_neg c1, if_neg c1, dSt, dw_b1]
      refine dw_mono (d_rem h) fun σ1 hh => ?_
      obtain ⟨μ1, em, ⟨H', f', h1⟩, _⟩ := hh
      rw [dw_b1]
      have wb : dWB P B := h1.ok.1.b
      refine dw_bd (B.1, B.2.1, B.2.2.1, B.2.2.2.1, B.2.2.2.2.1, 1, B.2.2.2.2.2.2.1, B.2.2.2.2.2.2.2.1, B.2.2.2.2.2.2.2.2) h1.C (by omega) ⟨rfl, rfl, rfl, rfl⟩ rfl rfl rfl rfl rfl fun σ2 k2 f2 => ?_
      refine dw_bd (B.1, B.2.1, B.2.2.1, B.2.2.2.1, B.2.2.2.2.1, 1, 0, B.2.2.2.2.2.2.2.1, B.2.2.2.2.2.2.2.2) k2 (by omega) ⟨rfl, rfl, rfl, rfl⟩ rfl rfl rfl rfl rfl fun σ3 k3 f3 => ?_
      refine dw_bd (B.1, B.2.1, B.2.2.1, B.2.2.2.1, B.2.2.2.2.1, 1, 0, 0, B.2.2.2.2.2.2.2.2) k3 (by omega) ⟨rfl, rfl, rfl, rfl⟩ rfl rfl rfl rfl rfl fun σ4 k4 f4 => ?_
      rw [dw_some, dw_some, dw_b1]
      refine ⟨μ1, em, ?_⟩
      refine du_bd (B.1, B.2.1, B.2.2.1, B.2.2.2.1, B.2.2.2.2.1, 1, B.2.2.2.2.2.2.1, B.2.2.2.2.2.2.2.1, B.2.2.2.2.2.2.2.2) h1.M wb hn (by omega) ⟨rfl, rfl, rfl, rfl⟩ rfl rfl rfl rfl rfl fun μ2 m2 g2 => ?_
      refine du_bd (B.1, B.2.1, B.2.2.1, B.2.2.2.1, B.2.2.2.2.1, 1, 0, B.2.2.2.2.2.2.2.1, B.2.2.2.2.2.2.2.2) m2 (dWB_md wb rfl rfl rfl) hn (by omega) ⟨rfl, rfl, rfl, rfl⟩ rfl rfl rfl rfl rfl fun μ3 m3 g3 => ?_
      refine du_bd (B.1, B.2.1, B.2.2.1, B.2.2.2.1, B.2.2.2.2.1, 1, 0, 0, B.2.2.2.2.2.2.2.2) m3 (dWB_md wb rfl rfl rfl) hn (by omega) ⟨rfl, rfl, rfl, rfl⟩ rfl rfl rfl rfl rfl fun μ4 m4 g4 => ?_
      rw [dw_some]
      have ff := dF_trans f2 (dF_trans f3 f4)
      have s := h1.ok.1
      have ok : dOK P 9999 (B.1, B.2.1, B.2.2.1, B.2.2.2.1, B.2.2.2.2.1, 1, 0, 0, B.2.2.2.2.2.2.2.2) := by
        refine ⟨⟨dWB_md wb rfl rfl rfl, Nat.zero_le _, s.l, by show 1 < 4; omega, by show 0 ≤ 100; omega, fun _ hs => ⟨fun _ => Nat.zero_le _, fun h3 => ?_⟩⟩, dK_md h1.ok.2.1 rfl rfl, h1.ok.2.2⟩
        obtain ⟨_, _, t, s3, s4, s5⟩ := h1.W.S _ hs
        dsimp only at h3 s4 s5 ⊢
        rw [s4, dn_nat (by omega)]
        exact s5 h3
      refine ⟨?_, P, p, _, I, H', f', dI_bd h1 ff (dG3_of (dG_trans g2 (dG_trans g3 g4))) k4 m4 ok⟩
      have e6 : σ4 (0, 0, 0) 6 = dn p := by rw [ff _ (by simp [dbk])]; exact h1.cp
      dsimp only
      rw [e6, dn_nat (by omega), k4.P.st, m4.P.st]
theorem dS_load (h : dI σ μ P p B I H f) (v w : Int32) : dSt (F_PR_load σ v w) (F_Mo_load μ v w) := by
  unfold F_PR_load F_Mo_load PR_load_n19 Mo_load_n24
  have h := dI_th (v := 0) h
  rw [px_l]
  generalize px_up μ (0, 0, 0) 0 0 = μ at h
  have hn := h.W.wp.n
  rcases dIr h v with ⟨i, hi, rfl, e1, e2⟩ | ⟨_, e1, e2⟩
  · rw [e1, e2, px_b1_s, px_b1_s, if_neg (show ¬ (1 : Int32) = 0 by decide), if_neg (show ¬ (1 : Int32) = 0 by decide), show 13 * dn i + 6 = dn (13 * i + 6) from ix i 6]
    rcases dn_cases w with c | ⟨n, hn2, rfl⟩
    · rw [if_pos c, if_pos c]; exact dSt_2 rfl h
    rw [if_neg (dn_nn hn2), if_neg (dn_nn hn2)]
    by_cases c : n ≤ 9999
    · have hc : dn n ≤ 9999 := by rw [show (9999 : Int32) = dn 9999 from rfl, dn_le (by omega) (by omega)]; exact c
      rw [if_pos hc, if_pos hc, dSt, dw_b1]
      refine dw_mono (d_rem h) fun σ1 hh => ?_
      obtain ⟨μ1, em, ⟨H', f', h1⟩, er⟩ := hh
      refine dw_gi (by omega) (by omega) (dw_gi (by omega) (by omega) ?_)
      rw [dn_nat (by omega)]
      refine dw_st h1.C fun σ2 k2 f2 => ?_
      rw [dw_some]
      refine dw_gi (by omega) (by omega) ?_
      rw [dw_b1]
      refine ⟨μ1, em, ?_⟩
      refine du_st (0, 6) h1.M hn hi (by decide) rfl fun μ2 m2 g2 => ?_
      rw [dw_some]
      refine ⟨?_, P, p, _, I, H', f', dI_bd h1 f2 (dG3_of g2) k2 m2 ⟨dSV_st h1.ok.1 (by omega), dK_0 h1.ok.2.1 ⟨n, c, rfl⟩, h1.ok.2.2⟩⟩
      dsimp only
      rw [dn_nat (by omega), h1.C.f i hi 0 (by omega), h.M.s.f i hi (0, 6) (by decide)]
    · have hc : ¬ dn n ≤ 9999 := by rw [show (9999 : Int32) = dn 9999 from rfl, dn_le (by omega) (by omega)]; exact c
      rw [if_neg hc, if_neg hc]; exact dSt_2 rfl h
  · rw [e1, e2]
    exact dSt_2 rfl h
theorem dS_limit (h : dI σ μ P p B I H f) (v w : Int32) : dSt (F_PR_limit σ v w) (F_Mo_limit μ v w) := by
  unfold F_PR_limit F_Mo_limit PR_limit_n19 Mo_limit_n24
  have h := dI_th (v := 0) h
  rw [px_l]
  generalize px_up μ (0, 0, 0) 0 0 = μ at h
  have hn := h.W.wp.n
  rcases dIr h v with ⟨i, hi, rfl, e1, e2⟩ | ⟨_, e1, e2⟩
  · rw [e1, e2, px_b1_s, px_b1_s, if_neg (show ¬ (1 : Int32) = 0 by decide), if_neg (show ¬ (1 : Int32) = 0 by decide), show 13 * dn i + 7 = dn (13 * i + 7) from ix i 7]
    by_cases c0 : w < 1
    · rw [if_pos c0, if_pos c0]; exact dSt_2 rfl h
    rw [if_neg c0, if_neg c0]
    by_cases hc : w ≤ 99999
    · rw [if_pos hc, if_pos hc, dSt, dw_b1]
      refine dw_mono (d_rem h) fun σ1 hh => ?_
      obtain ⟨μ1, em, ⟨H', f', h1⟩, er⟩ := hh
      refine dw_gi (by omega) (by omega) (dw_gi (by omega) (by omega) ?_)
      rw [dn_nat (by omega)]
      refine dw_st h1.C fun σ2 k2 f2 => ?_
      rw [dw_some]
      refine dw_gi (by omega) (by omega) ?_
      rw [dw_b1]
      refine ⟨μ1, em, ?_⟩
      refine du_st (1, 7) h1.M hn hi (by decide) rfl fun μ2 m2 g2 => ?_
      rw [dw_some]
      refine ⟨?_, P, p, _, I, H', f', dI_bd h1 f2 (dG3_of g2) k2 m2 ⟨dSV_st h1.ok.1 (by omega), dK_st h1.ok.2.1 (by simp), h1.ok.2.2⟩⟩
      dsimp only
      rw [dn_nat (by omega), h1.C.f i hi 1 (by omega), h.M.s.f i hi (1, 7) (by decide)]
    · rw [if_neg hc, if_neg hc]; exact dSt_2 rfl h
  · rw [e1, e2]
    exact dSt_2 rfl h
theorem dS_tick (h : dI σ μ P p B I H f) (v : Int32) : dSt (F_PR_tick σ v) (F_Mo_tick μ v) := by
  unfold F_PR_tick F_Mo_tick PR_tick_n11 Mo_tick_n16
  have h := dI_th (v := 0) h
  rw [px_l]
  generalize px_up μ (0, 0, 0) 0 0 = μ at h
  have hn := h.W.wp.n
  have htk := h.ok.2.2
  by_cases c0 : v < 1
  · rw [if_pos c0, if_pos c0]; exact dSt_2 rfl h
  rw [if_neg c0, if_neg c0]
  obtain ⟨n, hn2, rfl⟩ : ∃ n, n < 2147483648 ∧ v = dn n := by
    rcases dn_cases v with c | c
    · refine absurd ?_ c0
      rw [Int32.lt_iff_toInt_lt] at c ⊢
      simp at c ⊢
      omega
    · exact c
  by_cases c : n ≤ 50
  · have hc : dn n ≤ 50 := by rw [show (50 : Int32) = dn 50 from rfl, dn_le (by omega) (by omega)]; exact c
    rw [if_pos hc, if_pos hc, h.C.tick, h.M.s.tick, dn_add]
    by_cases c2 : B.2.2.2.1 + n ≤ 9999
    · have hc2 : dn (B.2.2.2.1 + n) ≤ 9999 := by rw [show (9999 : Int32) = dn 9999 from rfl, dn_le (by omega) (by omega)]; exact c2
      rw [if_pos hc2, if_pos hc2, dSt, dw_b1]
      refine dw_mono (d_rem h) fun σ1 hh => ?_
      obtain ⟨μ1, em, ⟨H', f', h1⟩, er⟩ := hh
      have hall := fun t (ht : t ≤ n) => dPn_ok h1.W h1.ok t (by omega)
      rw [dw_b1]
      refine dw_mono (P := fun σ2 => dC σ2 1 p P (dPn P n B) ∧ dF 1 σ1 σ2) ?_ fun σ2 ⟨k2, f2⟩ => ?_
      · refine dw_up n (by unfold px_N; omega) (fun t s => s.1 = dn t ∧ dC s.2 1 p P (dPn P t B) ∧ dF 1 σ1 s.2) (fun t s ht hI => ?_) (fun s hI => ?_) (Nat.zero_le _) ⟨rfl, h1.C, dF_refl 1 σ1⟩
        · obtain ⟨x, τ⟩ := s
          obtain ⟨rfl, g1, g2⟩ := hI
          dsimp only at g1 g2
          show dw (PR_tick_n37 τ (dn n) (dn t)) _
          unfold PR_tick_n37
          rw [if_neg (by rw [dn_le (by omega) (by omega)]; omega)]
          refine dw_T (dT_p g1 h1.W h1.pp (hall t (by omega)).1 (by omega)) fun τ1 k1 f1 => ?_
          simp only [dw_some, dR_l]
          exact ⟨dn_suc t, k1, dF_trans g2 f1⟩
        · obtain ⟨x, τ⟩ := s
          obtain ⟨rfl, g1, g2⟩ := hI
          show dw (PR_tick_n37 τ (dn n) (dn n)) _
          unfold PR_tick_n37
          rw [if_pos (by rw [dn_le (by omega) (by omega)]; omega)]
          simp only [dw_some, dR_r]
          exact ⟨g1, g2⟩
      · rw [dw_some, dw_b1]
        refine ⟨μ1, em, ?_⟩
        dsimp only
        rw [dw_b1]
        refine dw_mono (P := fun μ2 => dM μ2 P (dPn P n B) ∧ dG3 μ1 μ2) ?_ fun μ2 ⟨m2, g2⟩ => ?_
        · refine dw_up n (by unfold px_N; omega) (fun t s => s.1 = dn t ∧ dM s.2 P (dPn P t B) ∧ dG3 μ1 s.2) (fun t s ht hI => ?_) (fun s hI => ?_) (Nat.zero_le _) ⟨rfl, h1.M, dG3_refl μ1⟩
          · obtain ⟨x, τ⟩ := s
            obtain ⟨rfl, g1, g2⟩ := hI
            dsimp only at g1 g2
            show dw (Mo_tick_n43 τ (dn n) (dn t)) _
            unfold Mo_tick_n43
            rw [if_neg (by rw [dn_le (by omega) (by omega)]; omega), dw_b1]
            refine dw_mono (dU_p g1 h1.W (hall t (by omega)).1 (by omega)) fun τ1 ⟨k1, f1⟩ => ?_
            simp only [dw_some, dR_l]
            exact ⟨dn_suc t, k1, dG3_trans g2 f1⟩
          · obtain ⟨x, τ⟩ := s
            obtain ⟨rfl, g1, g2⟩ := hI
            show dw (Mo_tick_n43 τ (dn n) (dn n)) _
            unfold Mo_tick_n43
            rw [if_pos (by rw [dn_le (by omega) (by omega)]; omega)]
            simp only [dw_some, dR_r]
            exact ⟨g1, g2⟩
        · rw [dw_some]
          obtain ⟨o1, o2⟩ := hall n (Nat.le_refl _)
          refine ⟨?_, P, p, _, I, H', f', dI_bd h1 f2 g2 k2 m2 ⟨o1.1, o1.2.1, by rw [o2]; exact c2⟩⟩
          dsimp only
          rw [k2.tick, m2.s.tick]
    · have hc2 : ¬ dn (B.2.2.2.1 + n) ≤ 9999 := by rw [show (9999 : Int32) = dn 9999 from rfl, dn_le (by omega) (by omega)]; exact c2
      rw [if_neg hc2, if_neg hc2]; exact dSt_2 rfl h
  · have hc : ¬ dn n ≤ 50 := by rw [show (50 : Int32) = dn 50 from rfl, dn_le (by omega) (by omega)]; exact c
    rw [if_neg hc, if_neg hc]; exact dSt_2 rfl h
end F8
end
