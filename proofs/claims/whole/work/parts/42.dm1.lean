section
/-! the reference: its row of numbers -/
def du (s : Nat → Int32) (q : Nat) (v : Int32) : Nat → Int32 := fun n => if n = q then v else s n
theorem px_up_du {μ : pxS} {i : pxI} {q : Nat} {v : Int32} : px_up μ i q v i = du (μ i) q v := by
  funext n
  simp [px_up, du]
/-- fields of a rail: the class' number, the row's place -/
def dfl : List (Nat × Nat) := [(2, 0), (3, 1), (5, 2), (6, 3), (8, 4), (9, 5), (0, 6), (1, 7), (7, 9), (10, 11), (12, 12)]
theorem dfl_lt : ∀ a ∈ dfl, a.2 < 13 ∧ a.2 ≠ 8 ∧ a.2 ≠ 10 ∧ a.1 ≠ 11 := by decide
theorem dfl_in : ∀ a ∈ dfl, ∀ b ∈ dfl, a.2 = b.2 → a.1 = b.1 := by decide
theorem dfl_in2 : ∀ a ∈ dfl, ∀ b ∈ dfl, a.1 = b.1 → a.2 = b.2 := by decide
def dAg (x : Int32) : Int32 := if x = -2 then 0 else x
abbrev dMs (s : Nat → Int32) (P : dP) (B : dB) : Prop := (∀ i, i < P.1 → ∀ a ∈ dfl, s (13 * i + a.2) = B.1 i a.1) ∧ (∀ i, i < P.1 → s (13 * i + 8) = if i ∈ B.2.2.1 then 1 else 0) ∧ (∀ i, i < P.1 → s (13 * i + 10) = dAg (B.1 i 11)) ∧ (s 156 = dn B.2.1.length) ∧ (∀ t (h : t < B.2.1.length), s (157 + t) = dn B.2.1[t]) ∧ (s 169 = dn B.2.2.1.length) ∧ (∀ t (h : t < B.2.2.1.length), s (170 + t) = dn B.2.2.1[t]) ∧ (s 182 = dn B.2.2.2.1) ∧ (s 183 = dn B.2.2.2.2.2.1) ∧ (s 184 = dn B.2.2.2.2.2.2.1) ∧ (s 185 = dn B.2.2.2.2.2.2.2.1) ∧ (s 186 = B.2.2.2.2.1) ∧ (s 187 = dn (min B.2.2.2.2.2.2.2.2.length 40)) ∧ (∀ t (h : t < B.2.2.2.2.2.2.2.2.length), t < 40 → s (188 + 3 * t) = dn B.2.2.2.2.2.2.2.2[t].1 ∧ s (189 + 3 * t) = B.2.2.2.2.2.2.2.2[t].2.1 ∧ s (190 + 3 * t) = B.2.2.2.2.2.2.2.2[t].2.2)
theorem dMs.f {s : Nat → Int32} {P : dP} {B : dB} (h0 : dMs s P B) : ∀ i, i < P.1 → ∀ a ∈ dfl, s (13 * i + a.2) = B.1 i a.1 := h0.1
theorem dMs.ro {s : Nat → Int32} {P : dP} {B : dB} (h0 : dMs s P B) : ∀ i, i < P.1 → s (13 * i + 8) = if i ∈ B.2.2.1 then 1 else 0 := h0.2.1
theorem dMs.ag {s : Nat → Int32} {P : dP} {B : dB} (h0 : dMs s P B) : ∀ i, i < P.1 → s (13 * i + 10) = dAg (B.1 i 11) := h0.2.2.1
theorem dMs.wl {s : Nat → Int32} {P : dP} {B : dB} (h0 : dMs s P B) : s 156 = dn B.2.1.length := h0.2.2.2.1
theorem dMs.wi {s : Nat → Int32} {P : dP} {B : dB} (h0 : dMs s P B) : ∀ t (h : t < B.2.1.length), s (157 + t) = dn B.2.1[t] := h0.2.2.2.2.1
theorem dMs.rl {s : Nat → Int32} {P : dP} {B : dB} (h0 : dMs s P B) : s 169 = dn B.2.2.1.length := h0.2.2.2.2.2.1
theorem dMs.ri {s : Nat → Int32} {P : dP} {B : dB} (h0 : dMs s P B) : ∀ t (h : t < B.2.2.1.length), s (170 + t) = dn B.2.2.1[t] := h0.2.2.2.2.2.2.1
theorem dMs.tick {s : Nat → Int32} {P : dP} {B : dB} (h0 : dMs s P B) : s 182 = dn B.2.2.2.1 := h0.2.2.2.2.2.2.2.1
theorem dMs.mode {s : Nat → Int32} {P : dP} {B : dB} (h0 : dMs s P B) : s 183 = dn B.2.2.2.2.2.1 := h0.2.2.2.2.2.2.2.2.1
theorem dMs.step {s : Nat → Int32} {P : dP} {B : dB} (h0 : dMs s P B) : s 184 = dn B.2.2.2.2.2.2.1 := h0.2.2.2.2.2.2.2.2.2.1
theorem dMs.stay {s : Nat → Int32} {P : dP} {B : dB} (h0 : dMs s P B) : s 185 = dn B.2.2.2.2.2.2.2.1 := h0.2.2.2.2.2.2.2.2.2.2.1
theorem dMs.total {s : Nat → Int32} {P : dP} {B : dB} (h0 : dMs s P B) : s 186 = B.2.2.2.2.1 := h0.2.2.2.2.2.2.2.2.2.2.2.1
theorem dMs.lc {s : Nat → Int32} {P : dP} {B : dB} (h0 : dMs s P B) : s 187 = dn (min B.2.2.2.2.2.2.2.2.length 40) := h0.2.2.2.2.2.2.2.2.2.2.2.2.1
theorem dMs.lg {s : Nat → Int32} {P : dP} {B : dB} (h0 : dMs s P B) : ∀ t (h : t < B.2.2.2.2.2.2.2.2.length), t < 40 → s (188 + 3 * t) = dn B.2.2.2.2.2.2.2.2[t].1 ∧ s (189 + 3 * t) = B.2.2.2.2.2.2.2.2[t].2.1 ∧ s (190 + 3 * t) = B.2.2.2.2.2.2.2.2[t].2.2 := h0.2.2.2.2.2.2.2.2.2.2.2.2.2
/-- the reference's plan -/
abbrev dMP (μ : pxS) (P : dP) : Prop := (μ (1, 3, 0) 0 = dn P.1) ∧ (μ (1, 3, 0) 1 = dn P.2.1) ∧ (μ (1, 3, 0) 2 = dn P.2.2.1) ∧ (μ (1, 3, 0) 3 = P.2.2.2 14 0) ∧ (μ (1, 3, 0) 4 = P.2.2.2 14 1) ∧ (μ (1, 3, 0) 5 = P.2.2.2 14 2) ∧ (μ (1, 3, 0) 6 = P.2.2.2 14 6) ∧ (μ (1, 3, 0) 7 = P.2.2.2 14 7) ∧ (μ (1, 3, 0) 8 = P.2.2.2 14 3) ∧ (μ (1, 3, 0) 9 = P.2.2.2 14 4) ∧ (μ (1, 3, 0) 10 = P.2.2.2 14 5) ∧ (∀ a, a < 8 → ∀ i, i < P.1 → μ (1, a + 5, 0) i = P.2.2.2 a i) ∧ (∀ i, i < P.1 → μ (1, 26, 0) i = P.2.2.2 8 i) ∧ (∀ i, i < P.1 → μ (1, 27, 0) i = P.2.2.2 9 i) ∧ (∀ a, 11 ≤ a → a < 14 → ∀ i, i < P.2.2.1 → μ (1, a + 2, 0) i = P.2.2.2 a i)
theorem dMP.n {μ : pxS} {P : dP} (h0 : dMP μ P) : μ (1, 3, 0) 0 = dn P.1 := h0.1
theorem dMP.m {μ : pxS} {P : dP} (h0 : dMP μ P) : μ (1, 3, 0) 1 = dn P.2.1 := h0.2.1
theorem dMP.st {μ : pxS} {P : dP} (h0 : dMP μ P) : μ (1, 3, 0) 2 = dn P.2.2.1 := h0.2.2.1
theorem dMP.droop {μ : pxS} {P : dP} (h0 : dMP μ P) : μ (1, 3, 0) 3 = P.2.2.2 14 0 := h0.2.2.2.1
theorem dMP.fall {μ : pxS} {P : dP} (h0 : dMP μ P) : μ (1, 3, 0) 4 = P.2.2.2 14 1 := h0.2.2.2.2.1
theorem dMP.low {μ : pxS} {P : dP} (h0 : dMP μ P) : μ (1, 3, 0) 5 = P.2.2.2 14 2 := h0.2.2.2.2.2.1
theorem dMP.budget {μ : pxS} {P : dP} (h0 : dMP μ P) : μ (1, 3, 0) 6 = P.2.2.2 14 6 := h0.2.2.2.2.2.2.1
theorem dMP.seed {μ : pxS} {P : dP} (h0 : dMP μ P) : μ (1, 3, 0) 7 = P.2.2.2 14 7 := h0.2.2.2.2.2.2.2.1
theorem dMP.filter {μ : pxS} {P : dP} (h0 : dMP μ P) : μ (1, 3, 0) 8 = P.2.2.2 14 3 := h0.2.2.2.2.2.2.2.2.1
theorem dMP.times {μ : pxS} {P : dP} (h0 : dMP μ P) : μ (1, 3, 0) 9 = P.2.2.2 14 4 := h0.2.2.2.2.2.2.2.2.2.1
theorem dMP.hold {μ : pxS} {P : dP} (h0 : dMP μ P) : μ (1, 3, 0) 10 = P.2.2.2 14 5 := h0.2.2.2.2.2.2.2.2.2.2.1
theorem dMP.a {μ : pxS} {P : dP} (h0 : dMP μ P) : ∀ a, a < 8 → ∀ i, i < P.1 → μ (1, a + 5, 0) i = P.2.2.2 a i := h0.2.2.2.2.2.2.2.2.2.2.2.1
theorem dMP.dir {μ : pxS} {P : dP} (h0 : dMP μ P) : ∀ i, i < P.1 → μ (1, 26, 0) i = P.2.2.2 8 i := h0.2.2.2.2.2.2.2.2.2.2.2.2.1
theorem dMP.hang {μ : pxS} {P : dP} (h0 : dMP μ P) : ∀ i, i < P.1 → μ (1, 27, 0) i = P.2.2.2 9 i := h0.2.2.2.2.2.2.2.2.2.2.2.2.2.1
theorem dMP.s {μ : pxS} {P : dP} (h0 : dMP μ P) : ∀ a, 11 ≤ a → a < 14 → ∀ i, i < P.2.2.1 → μ (1, a + 2, 0) i = P.2.2.2 a i := h0.2.2.2.2.2.2.2.2.2.2.2.2.2.2
abbrev dM (μ : pxS) (P : dP) (B : dB) : Prop := (dMs (μ (1, 28, 0)) P B) ∧ (dMP μ P)
theorem dM.s {μ : pxS} {P : dP} {B : dB} (h0 : dM μ P B) : dMs (μ (1, 28, 0)) P B := h0.1
theorem dM.P {μ : pxS} {P : dP} {B : dB} (h0 : dM μ P B) : dMP μ P := h0.2
/-- what most methods of the reference touch alone -/
def dmk (j : pxI) : Prop := j = (1, 28, 0)
def dG (μ μ' : pxS) : Prop := ∀ j, ¬ dmk j → μ' j = μ j
theorem dG_refl (μ : pxS) : dG μ μ := fun _ _ => rfl
theorem dG_trans {μ μ' μ'' : pxS} (h : dG μ μ') (h' : dG μ' μ'') : dG μ μ'' := fun j hj => (h' j hj).trans (h j hj)
theorem dG_up {μ : pxS} {i : pxI} {q : Nat} {v : Int32} (h : dmk i) : dG μ (px_up μ i q v) := fun j hj => by
  have : j ≠ i := fun e => hj (e ▸ h)
  funext t
  simp [px_up, this]
theorem dMP_G {μ μ' : pxS} {P : dP} (hG : dG μ μ') (h : dMP μ P) : dMP μ' P := by
  have e : ∀ a, a ≠ 28 → a ≠ 34 → a ≠ 35 → μ' (1, a, 0) = μ (1, a, 0) := fun a h1 h2 h3 => hG _ (by simp [dmk, h1, h2, h3])
  have e3 := e 3 (by omega) (by omega) (by omega)
  exact ⟨by rw [e3]; exact h.n, by rw [e3]; exact h.m, by rw [e3]; exact h.st, by rw [e3]; exact h.droop, by rw [e3]; exact h.fall, by rw [e3]; exact h.low, by rw [e3]; exact h.budget, by rw [e3]; exact h.seed, by rw [e3]; exact h.filter, by rw [e3]; exact h.times, by rw [e3]; exact h.hold, fun a ha i hi => by rw [e _ (by omega) (by omega) (by omega)]; exact h.a a ha i hi, fun i hi => by rw [e _ (by omega) (by omega) (by omega)]; exact h.dir i hi, fun i hi => by rw [e _ (by omega) (by omega) (by omega)]; exact h.hang i hi, fun a h1 h2 i hi => by rw [e _ (by omega) (by omega) (by omega)]; exact h.s a h1 h2 i hi⟩
theorem du_ne {s : Nat → Int32} {q n : Nat} {v : Int32} (h : n ≠ q) : du s q v n = s n := if_neg h
theorem du_eq {s : Nat → Int32} {q : Nat} {v : Int32} : du s q v q = v := if_pos rfl
section E1
variable {s : Nat → Int32} {P : dP} {B : dB}
theorem dMs_st {i : Nat} {a : Nat × Nat} {v : Int32} (h : dMs s P B) (hn : P.1 ≤ 12) (hi : i < P.1) (ha : a ∈ dfl) : dMs (du s (13 * i + a.2) v) P (B.st i a.1 v) := by
  obtain ⟨l1, l2, l3, l4⟩ := dfl_lt a ha
  have big : ∀ x, 156 ≤ x → du s (13 * i + a.2) v x = s x := fun x hx => du_ne (by omega)
  refine ⟨fun j hj b hb => ?_, fun j hj => by rw [du_ne (by omega)]; exact h.ro j hj, fun j hj => ?_, by rw [big _ (by omega)]; exact h.wl, fun t ht => by rw [big _ (by omega)]; exact h.wi t ht, by rw [big _ (by omega)]; exact h.rl, fun t ht => by rw [big _ (by omega)]; exact h.ri t ht, by rw [big _ (by omega)]; exact h.tick, by rw [big _ (by omega)]; exact h.mode, by rw [big _ (by omega)]; exact h.step, by rw [big _ (by omega)]; exact h.stay, by rw [big _ (by omega)]; exact h.total, by rw [big _ (by omega)]; exact h.lc, fun t ht h4 => by rw [big _ (by omega), big _ (by omega), big _ (by omega)]; exact h.lg t ht h4⟩
  · obtain ⟨m1, m2, m3, m4⟩ := dfl_lt b hb
    by_cases e : j = i ∧ b.1 = a.1
    · obtain ⟨rfl, e2⟩ := e
      rw [dfl_in2 b hb a ha e2, e2, dB.st_eq, du_eq]
    · rw [du_ne (fun z => e ⟨by omega, dfl_in b hb a ha (by omega)⟩), dB.st_ne (by
        by_cases e3 : j = i
        · exact Or.inr fun z => e ⟨e3, z⟩
        · exact Or.inl e3)]
      exact h.f j hj b hb
  · rw [du_ne (by omega), dB.st_ne (Or.inr (Ne.symm l4))]; exact h.ag j hj
theorem dMs_ag {i : Nat} {v : Int32} (h : dMs s P B) (hn : P.1 ≤ 12) (hi : i < P.1) : dMs (du s (13 * i + 10) (dAg v)) P (B.st i 11 v) := by
  have big : ∀ x, 156 ≤ x → du s (13 * i + 10) (dAg v) x = s x := fun x hx => du_ne (by omega)
  refine ⟨fun j hj b hb => ?_, fun j hj => by rw [du_ne (by omega)]; exact h.ro j hj, fun j hj => ?_, by rw [big _ (by omega)]; exact h.wl, fun t ht => by rw [big _ (by omega)]; exact h.wi t ht, by rw [big _ (by omega)]; exact h.rl, fun t ht => by rw [big _ (by omega)]; exact h.ri t ht, by rw [big _ (by omega)]; exact h.tick, by rw [big _ (by omega)]; exact h.mode, by rw [big _ (by omega)]; exact h.step, by rw [big _ (by omega)]; exact h.stay, by rw [big _ (by omega)]; exact h.total, by rw [big _ (by omega)]; exact h.lc, fun t ht h4 => by rw [big _ (by omega), big _ (by omega), big _ (by omega)]; exact h.lg t ht h4⟩
  · obtain ⟨m1, m2, m3, m4⟩ := dfl_lt b hb
    rw [du_ne (by omega), dB.st_ne (Or.inr m4)]
    exact h.f j hj b hb
  · by_cases e : j = i
    · subst e; rw [du_eq, dB.st_eq]
    · rw [du_ne (by omega), dB.st_ne (Or.inl e)]; exact h.ag j hj
/-- the class' fields that the row does not hold -/
theorem dMs_4 {i : Nat} {v : Int32} (h : dMs s P B) : dMs s P (B.st i 4 v) :=
  ⟨fun j hj b hb => by rw [dB.st_ne (Or.inr (by have : ∀ a ∈ dfl, a.1 ≠ 4 := by decide
                                                exact this b hb))]; exact h.f j hj b hb, h.ro, fun j hj => by rw [dB.st_ne (Or.inr (by omega))]; exact h.ag j hj, h.wl, h.wi, h.rl, h.ri, h.tick, h.mode, h.step, h.stay, h.total, h.lc, h.lg⟩
end E1
theorem ix (i c : Nat) : 13 * dn i + dn c = dn (13 * i + c) := by
  rw [show (13 : Int32) = dn 13 from rfl, dn_mul, dn_add]
/-- 'o' takes the reference's row to B -/
def dU (μ : pxS) (P : dP) (o : Option pxS) (B : dB) : Prop := dw o (fun μ' => dM μ' P B ∧ dG μ μ')
section E2
variable {α : Type} {μ : pxS} {P : dP} {B B1 B2 : dB} {Q : α → Prop}
theorem dU_some (h : dM μ P B) : dU μ P (some μ) B := dw_some.mpr ⟨h, dG_refl μ⟩
theorem du_T {o : Option pxS} {f : pxS → Option α} (h : dU μ P o B1) (hf : ∀ μ1, dM μ1 P B1 → dG μ μ1 → dw (f μ1) Q) : dw (px_b1 o f) Q :=
  dw_b1.mpr (dw_mono h fun σ1 h1 => hf σ1 h1.1 h1.2)
theorem dM_st {i : Nat} {a : Nat × Nat} {v : Int32} (h : dM μ P B) (hn : P.1 ≤ 12) (hi : i < P.1) (ha : a ∈ dfl) : dM (px_up μ (1, 28, 0) (13 * i + a.2) v) P (B.st i a.1 v) :=
  ⟨by rw [px_up_du]; exact dMs_st h.s hn hi ha, dMP_G (dG_up rfl) h.P⟩
/-- a field is written -/
theorem du_st {i : Nat} (a : Nat × Nat) {v j : Int32} {f : pxS → Option α} (h : dM μ P B) (hn : P.1 ≤ 12) (hi : i < P.1) (ha : a ∈ dfl) (hj : j = dn (13 * i + a.2)) (hf : ∀ μ1, dM μ1 P (B.st i a.1 v) → dG μ μ1 → dw (f μ1) Q) : dw (px_gd j 308 (px_l (px_up μ (1, 28, 0) j.toNatClampNeg v) f)) Q := by
  obtain ⟨l1, l2, l3, l4⟩ := dfl_lt a ha
  subst hj
  rw [dw_gd, dn_nat (by omega)]
  exact ⟨⟨dn_nn (by omega), by omega⟩, hf _ (dM_st h hn hi ha) (dG_up rfl)⟩
theorem dM_state {i : Nat} (h : dM μ P B) (hn : P.1 ≤ 12) (hi : i < P.1) : F_Mo_state μ (dn i) = some (B.1 i 2) := by
  unfold F_Mo_state
  rw [show 13 * dn i + 0 = dn (13 * i + 0) from ix i 0]
  unfold px_gd
  rw [if_pos ⟨dn_nn (by omega), by rw [dn_nat (by omega)]; omega⟩, dn_nat (by omega), h.s.f i hi (2, 0) (by decide)]
theorem dU_state {i : Nat} {v : Int32} (h : dM μ P B) (hn : P.1 ≤ 12) (hi : i < P.1) : dU μ P (F_Mo_state_ μ (dn i) v) (B.st i 2 v) := by
  unfold F_Mo_state_
  refine du_st (2, 0) h hn hi (by decide) (ix i 0) fun μ1 h1 g1 => dw_some.mpr ⟨h1, g1⟩
theorem dM_n (h : dM μ P B) : F_Mo_rails μ = some (dn P.1) := by
  unfold F_Mo_rails
  simp [h.P.n]
theorem dM_gd {i : Nat} (h : dM μ P B) (hn : P.1 ≤ 12) (hi : i < P.1) : F_Mo_isGood μ (dn i) = some (if B.gd P i then 1 else 0) := by
  unfold F_Mo_isGood Mo_isGood_n43
  rw [dM_state h hn hi, show 13 * dn i + 1 = dn (13 * i + 1) from ix i 1]
  unfold px_b1 px_gd
  dsimp only
  rw [if_pos (⟨dn_nn (by omega), by rw [dn_nat (by omega)]; omega⟩ : ¬ dn (13 * i + 1) < 0 ∧ _), if_pos (⟨dn_nn (by omega), by rw [dn_nat (by omega)]; omega⟩ : ¬ dn i < 0 ∧ _), dn_nat (by omega), dn_nat (by omega), h.s.f i hi (3, 1) (by decide), h.P.a 2 (by omega) i hi, h.P.low]
  by_cases c : B.1 i 2 = 3
  · by_cases c2 : B.1 i 3 * 100 < P.2.2.2 2 i * P.2.2.2 14 2
    · rw [if_pos c, if_pos c2, if_neg (fun z : B.gd P i => z.2 c2)]
    · rw [if_pos c, if_neg c2, if_pos (show B.gd P i from ⟨c, c2⟩)]
  · rw [if_neg c, if_neg (fun z : B.gd P i => c z.1)]
end E2
end
section
section E2L
variable {α : Type} {μ : pxS} {P : dP} {B B1 B2 : dB} {Q : α → Prop}
theorem ix3 (k c : Nat) : dn c + 3 * dn k = dn (c + 3 * k) := by
  rw [show (3 : Int32) = dn 3 from rfl, dn_mul, dn_add]
/-- the log's row goes on by a line -/
theorem dM_shift {r w : Int32} : dw (px_it (Mo_logs_L3 r w) px_N (39, μ)) (fun τ => (∀ x, τ (1, 28, 0) x = if 191 ≤ x ∧ x < 308 then μ (1, 28, 0) (x - 3) else μ (1, 28, 0) x) ∧ dG μ τ) := by
  refine dw_it (fun k st => st.1 = dn k ∧ k ≤ 39 ∧ (∀ x, st.2 (1, 28, 0) x = if 188 + 3 * (k + 1) ≤ x ∧ x < 308 then μ (1, 28, 0) (x - 3) else μ (1, 28, 0) x) ∧ dG μ st.2) (fun k st hI => ?_) px_N 39 (39, μ) (by unfold px_N; omega) ⟨rfl, Nat.le_refl _, fun x => by rw [if_neg (by omega)], dG_refl μ⟩
  obtain ⟨v, τ⟩ := st
  obtain ⟨rfl, hk, h1, h2⟩ := hI
  dsimp only at h1 h2
  show dw (Mo_logs_n3 τ r w (dn k)) _
  unfold Mo_logs_n3
  by_cases c : k = 0
  · subst c
    rw [if_pos (by decide)]
    simp only [dw_some, dR_r]
    exact ⟨h1, h2⟩
  · rw [if_neg (by rw [show (0 : Int32) = dn 0 from rfl, dn_le (by omega) (by omega)]; omega), dw_b1]
    refine dw_mono (P := fun τ' : pxS => (∀ x, τ' (1, 28, 0) x = if 188 + 3 * k ≤ x ∧ x < 308 then μ (1, 28, 0) (x - 3) else μ (1, 28, 0) x) ∧ dG μ τ') ?_ fun τ' h' => ?_
    · refine dw_up 3 (by unfold px_N; omega) (fun t st => st.1 = dn t ∧ (∀ x, st.2 (1, 28, 0) x = if (188 + 3 * (k + 1) ≤ x ∧ x < 308) ∨ (188 + 3 * k ≤ x ∧ x < 188 + 3 * k + t) then μ (1, 28, 0) (x - 3) else μ (1, 28, 0) x) ∧ dG μ st.2) (fun t st ht hI => ?_) (fun st hI => ?_) (Nat.zero_le _) ⟨rfl, fun x => by
          show τ (1, 28, 0) x = _
          rw [h1]
          by_cases e : 188 + 3 * (k + 1) ≤ x ∧ x < 308
          · rw [if_pos e, if_pos (Or.inl e)]
          · rw [if_neg e, if_neg (by omega)], h2⟩
      · obtain ⟨v, ρ⟩ := st
        obtain ⟨rfl, g1, g2⟩ := hI
        dsimp only at g1 g2
        show dw (Mo_logs_n10 ρ r w (dn k) (dn t)) _
        unfold Mo_logs_n10
        rw [if_neg (by rw [show (3 : Int32) = dn 3 from rfl, dn_le (by omega) (by omega)]; omega)]
        rw [show (188 : Int32) + 3 * dn k = dn (188 + 3 * k) from ix3 k 188, show dn (188 + 3 * k) - 3 = dn (188 + 3 * k - 3) from dn_sub (i := 188 + 3 * k) (j := 3) (by omega), dn_add, dn_add]
        simp only [dw_gd, dw_l, dw_some, dR_l, dn_nat (show 188 + 3 * k - 3 + t < 2147483648 by omega), dn_nat (show 188 + 3 * k + t < 2147483648 by omega)]
        refine ⟨⟨dn_nn (by omega), by omega⟩, ⟨dn_nn (by omega), by omega⟩, dn_suc t, fun x => ?_, dG_trans g2 (dG_up rfl)⟩
        rw [px_up_du]
        by_cases e : x = 188 + 3 * k + t
        · subst e
          rw [du_eq, g1, if_neg (by omega), if_pos (by omega)]
          congr 1
          omega
        · rw [du_ne e, g1]
          by_cases e2 : (188 + 3 * (k + 1) ≤ x ∧ x < 308) ∨ (188 + 3 * k ≤ x ∧ x < 188 + 3 * k + t)
          · rw [if_pos e2, if_pos (by omega)]
          · rw [if_neg e2, if_neg (by omega)]
      · obtain ⟨v, ρ⟩ := st
        obtain ⟨rfl, g1, g2⟩ := hI
        dsimp only at g1 g2
        show dw (Mo_logs_n10 ρ r w (dn k) (dn 3)) _
        unfold Mo_logs_n10
        rw [if_pos (by decide)]
        simp only [dw_some, dR_r]
        refine ⟨fun x => ?_, g2⟩
        rw [g1]
        by_cases e2 : 188 + 3 * k ≤ x ∧ x < 308
        · rw [if_pos e2, if_pos (by omega)]
        · rw [if_neg e2, if_neg (by omega)]
    · simp only [dw_some, dR_l]
      refine ⟨k - 1, by omega, ?_, by omega, fun x => ?_, h'.2⟩
      · obtain ⟨j, rfl⟩ : ∃ j, k = j + 1 := ⟨k - 1, by omega⟩
        exact dn_pre j
      · rw [h'.1 x, show k - 1 + 1 = k by omega]
theorem dU_logs {r w : Int32} (h : dM μ P B) (hn : P.1 ≤ 12) (hl : B.2.2.2.2.2.2.2.2.length < 1000000) (hw : B.2.1.length ≤ 12) (hr : B.2.2.1.length ≤ 12) : dU μ P (F_Mo_logs μ r w) (B.wr r w) := by
  unfold F_Mo_logs
  refine dw_b1.mpr (dw_mono dM_shift fun τ ⟨h1, h2⟩ => ?_)
  have hlog := h.s.lc
  have fin : ∀ (x : Int32), x = dn (min (B.2.2.2.2.2.2.2.2.length + 1) 40) → dM (px_up (px_up (px_up (px_up τ (1, 28, 0) 188 (τ (1, 28, 0) 182)) (1, 28, 0) 189 r) (1, 28, 0) 190 w) (1, 28, 0) 187 x) P (B.wr r w) ∧ dG μ (px_up (px_up (px_up (px_up τ (1, 28, 0) 188 (τ (1, 28, 0) 182)) (1, 28, 0) 189 r) (1, 28, 0) 190 w) (1, 28, 0) 187 x) := fun x hx => by
    have hg : dG μ (px_up (px_up (px_up (px_up τ (1, 28, 0) 188 (τ (1, 28, 0) 182)) (1, 28, 0) 189 r) (1, 28, 0) 190 w) (1, 28, 0) 187 x) := dG_trans h2 (dG_trans (dG_up rfl) (dG_trans (dG_up rfl) (dG_trans (dG_up rfl) (dG_up rfl))))
    refine ⟨⟨?_, dMP_G hg h.P⟩, hg⟩
    rw [px_up_du, px_up_du, px_up_du, px_up_du]
    have old : ∀ q, q < 187 → du (du (du (du (τ (1, 28, 0)) 188 (τ (1, 28, 0) 182)) 189 r) 190 w) 187 x q = μ (1, 28, 0) q := fun q hq => by
      rw [du_ne (by omega), du_ne (by omega), du_ne (by omega), du_ne (by omega), h1, if_neg (by omega)]
    have hs := h.s
    refine ⟨fun i hi a ha => by have := dfl_lt a ha; rw [old _ (by omega)]; exact hs.f i hi a ha, fun i hi => by rw [old _ (by omega)]; exact hs.ro i hi, fun i hi => by rw [old _ (by omega)]; exact hs.ag i hi, by rw [old _ (by omega)]; exact hs.wl, fun t ht => by have ht' : t < B.2.1.length := ht; rw [old _ (by omega)]; exact hs.wi t ht, by rw [old _ (by omega)]; exact hs.rl, fun t ht => by have ht' : t < B.2.2.1.length := ht; rw [old _ (by omega)]; exact hs.ri t ht, by rw [old _ (by omega)]; exact hs.tick, by rw [old _ (by omega)]; exact hs.mode, by rw [old _ (by omega)]; exact hs.step, by rw [old _ (by omega)]; exact hs.stay, by rw [old _ (by omega)]; exact hs.total, by rw [du_eq]; exact hx, fun t ht h4 => ?_⟩
    simp only [dB.wr, List.length_cons] at ht
    cases t with
    | zero =>
      refine ⟨?_, ?_, ?_⟩
      · rw [du_ne (by omega), du_ne (by omega), du_ne (by omega), Nat.mul_zero, Nat.add_zero, du_eq, h1, if_neg (by omega)]
        exact hs.tick
      · rw [du_ne (by omega), du_ne (by omega), Nat.mul_zero, Nat.add_zero, du_eq]; rfl
      · rw [du_ne (by omega), Nat.mul_zero, Nat.add_zero, du_eq]; rfl
    | succ t =>
      have hg := hs.lg t (by omega) (by omega)
      have e : ∀ y, 191 ≤ y → y < 308 → du (du (du (du (τ (1, 28, 0)) 188 (τ (1, 28, 0) 182)) 189 r) 190 w) 187 x y = μ (1, 28, 0) (y - 3) := fun y hy hy2 => by
        rw [du_ne (by omega), du_ne (by omega), du_ne (by omega), du_ne (by omega), h1, if_pos ⟨hy, hy2⟩]
      rw [e _ (by omega) (by omega), e _ (by omega) (by omega), e _ (by omega) (by omega)]
      simp only [dB.wr, List.getElem_cons_succ]
      rw [show 188 + 3 * (t + 1) - 3 = 188 + 3 * t by omega, show 189 + 3 * (t + 1) - 3 = 189 + 3 * t by omega, show 190 + 3 * (t + 1) - 3 = 190 + 3 * t by omega]
      exact hg
  have e187 : px_up (px_up (px_up τ (1, 28, 0) 188 (τ (1, 28, 0) 182)) (1, 28, 0) 189 r) (1, 28, 0) 190 w (1, 28, 0) 187 = dn (min B.2.2.2.2.2.2.2.2.length 40) := by
    rw [px_up_du, px_up_du, px_up_du, du_ne (by omega), du_ne (by omega), du_ne (by omega), h1, if_neg (by omega)]
    exact hlog
  simp only [dw_l]
  rw [e187]
  by_cases c : 40 ≤ B.2.2.2.2.2.2.2.2.length
  · rw [if_pos (by rw [show (40 : Int32) = dn 40 from rfl, dn_le (by omega) (by omega)]; omega)]
    exact dw_some.mpr (fin 40 (by rw [show (40 : Int32) = dn 40 from rfl]; congr 1; omega))
  · rw [if_neg (by rw [show (40 : Int32) = dn 40 from rfl, dn_le (by omega) (by omega)]; omega), dn_suc]
    exact dw_some.mpr (fin _ (by congr 1; omega))
end E2L
end
section
/-- a list that lies in the row, its length ahead -/
def dLs (s : Nat → Int32) (b : Nat) (l : List Nat) : Prop := s b = dn l.length ∧ ∀ t (h : t < l.length), s (b + 1 + t) = dn l[t]
section E3
variable {α : Type} {μ : pxS} {P : dP} {B B1 B2 : dB} {Q : α → Prop}
theorem dU_goes {b i n : Nat} {l : List Nat} (h : dLs (μ (1, 28, 0)) b l) (hl : dL n l) (hn : n ≤ 12) (hb : b + 13 ≤ 308) (hi : i < 2147483648) : dw (F_Mo_goesOut μ (dn b) (dn i)) (fun τ => dLs (τ (1, 28, 0)) b (dDrop l i) ∧ (∀ x, ¬ (b ≤ x ∧ x ≤ b + 12) → τ (1, 28, 0) x = μ (1, 28, 0) x) ∧ dG μ τ) := by
  have hL := dL_len hl
  unfold F_Mo_goesOut
  rw [dw_gd, dn_nat (by omega), h.1]
  refine ⟨⟨dn_nn (by omega), by omega⟩, ?_⟩
  rw [dw_b1]
  refine dw_up l.length (by unfold px_N; omega) (fun t s => s.1 = dn (dDrop (l.take t) i).length ∧ s.2.1 = dn t ∧ (∀ a (ha : a < (dDrop (l.take t) i).length), s.2.2 (1, 28, 0) (b + 1 + a) = dn (dDrop (l.take t) i)[a]) ∧ (∀ a (ha : a < l.length), t ≤ a → s.2.2 (1, 28, 0) (b + 1 + a) = dn l[a]) ∧ (∀ x, ¬ (b ≤ x ∧ x ≤ b + 12) → s.2.2 (1, 28, 0) x = μ (1, 28, 0) x) ∧ dG μ s.2.2) (fun t s ht hI => ?_) (fun s hI => ?_) (Nat.zero_le _) ⟨rfl, rfl, fun a ha => absurd ha (by simp [dDrop]), fun a ha _ => h.2 a ha, fun _ _ => rfl, dG_refl μ⟩
  · obtain ⟨v2, v3, τ⟩ := s
    obtain ⟨rfl, rfl, h1, h2, h3, h4⟩ := hI
    dsimp only at h1 h2 h3 h4
    have hl2 := dDrop_len l i t
    have hlt := hl.2 _ (List.getElem_mem ht)
    show dw (Mo_goesOut_n13 τ (dn b) (dn i) _ _ _) _
    unfold Mo_goesOut_n13 Mo_goesOut_n62
    rw [if_neg (by rw [dn_le (by omega) (by omega)]; omega), dn_suc, dn_add, dn_add]
    simp only [dw_gd, dn_nat (show b + 1 + t < 2147483648 by omega), h2 t ht (Nat.le_refl t)]
    refine ⟨⟨dn_nn (by omega), by omega⟩, dw_ite (fun e => ?_) (fun e => ?_)⟩
    · rw [dn_inj (by omega) (by omega)] at e
      have ed := dDrop_take (i := i) ht
      rw [if_pos e, List.append_nil] at ed
      simp only [dw_some, dR_l, ed]
      exact ⟨trivial, dn_suc t, h1, fun a ha ht => h2 a ha (by omega), h3, h4⟩
    · rw [dn_inj (by omega) (by omega)] at e
      have ed := dDrop_take (i := i) ht
      rw [if_neg e] at ed
      simp only [dw_gd, dw_l, dw_some, dR_l, dn_nat (show b + 1 + t < 2147483648 by omega), dn_nat (show b + 1 + (dDrop (l.take t) i).length < 2147483648 by omega)]
      refine ⟨⟨dn_nn (by omega), by omega⟩, ⟨dn_nn (by omega), by omega⟩, ?_, dn_suc t, ?_, ?_, ?_, dG_trans h4 (dG_up rfl)⟩
      · rw [ed, List.length_append]
        exact dn_suc _
      · intro a ha
        rw [px_up_du]
        by_cases ea : a = (dDrop (l.take t) i).length
        · subst ea
          rw [du_eq]
          simp [ed]
        · have hl3 : a < (dDrop (l.take t) i).length := by
            rw [ed, List.length_append] at ha
            simp at ha; omega
          simp only [ed]
          rw [List.getElem_append_left hl3, du_ne (by omega)]
          exact h1 a hl3
      · intro a ha hta
        rw [px_up_du, du_ne (by omega)]
        exact h2 a ha (by omega)
      · intro x hx
        rw [px_up_du, du_ne (by omega)]
        exact h3 x hx
  · obtain ⟨v2, v3, τ⟩ := s
    obtain ⟨rfl, rfl, h1, h2, h3, h4⟩ := hI
    dsimp only at h1 h2 h3 h4
    have hl2 := dDrop_len l i l.length
    show dw (Mo_goesOut_n13 τ (dn b) (dn i) _ _ _) _
    unfold Mo_goesOut_n13
    rw [if_pos (by rw [dn_le (by omega) (by omega)]; omega)]
    rw [List.take_length] at *
    simp only [dw_some, dR_r, dw_gd, dw_l, dn_nat (show b < 2147483648 by omega)]
    refine ⟨⟨dn_nn (by omega), by omega⟩, ⟨?_, ?_⟩, ?_, dG_trans h4 (dG_up rfl)⟩
    · rw [px_up_du, du_eq]
    · intro a ha
      rw [px_up_du, du_ne (by omega)]
      exact h1 a ha
    · intro x hx
      rw [px_up_du, du_ne (by omega)]
      exact h3 x hx
theorem dU_comes {b i : Nat} {l : List Nat} (h : dLs (μ (1, 28, 0)) b l) (hl : l.length < 12) (hb : b + 13 ≤ 308) : dw (F_Mo_comesTo μ (dn b) (dn i)) (fun τ => dLs (τ (1, 28, 0)) b (l ++ [i]) ∧ (∀ x, ¬ (b ≤ x ∧ x ≤ b + 12) → τ (1, 28, 0) x = μ (1, 28, 0) x) ∧ dG μ τ) := by
  unfold F_Mo_comesTo
  simp only [dw_gd, dw_l, dw_some, dn_nat (show b < 2147483648 by omega), h.1, dn_suc, dn_add, dn_nat (show b + 1 + l.length < 2147483648 by omega)]
  have hb0 : ¬ dn b < 0 ∧ b < 308 := ⟨dn_nn (by omega), by omega⟩
  refine ⟨hb0, ⟨dn_nn (by omega), by omega⟩, hb0, hb0, ⟨?_, fun t ht => ?_⟩, fun x hx => ?_, dG_trans (dG_up rfl) (dG_up rfl)⟩
  · rw [px_up_du, du_eq, px_up_du, du_ne (by omega), h.1, dn_suc, List.length_append]; rfl
  · rw [px_up_du, du_ne (by omega), px_up_du]
    simp at ht
    by_cases e : t = l.length
    · subst e; rw [du_eq]; simp
    · have : t < l.length := by omega
      rw [du_ne (by omega), h.2 t this, List.getElem_append_left this]
  · rw [px_up_du, du_ne (by omega), px_up_du, du_ne (by omega)]
/-- the waiting row is another -/
theorem dM_w {τ : pxS} {l : List Nat} (h : dM μ P B) (hn : P.1 ≤ 12) (hr : B.2.2.1.length ≤ 12) (h1 : dLs (τ (1, 28, 0)) 156 l) (h2 : ∀ x, ¬ (156 ≤ x ∧ x ≤ 156 + 12) → τ (1, 28, 0) x = μ (1, 28, 0) x) (h3 : dG μ τ) : dM τ P (B.1, l, B.2.2.1, B.2.2.2.1, B.2.2.2.2.1, B.2.2.2.2.2.1, B.2.2.2.2.2.2.1, B.2.2.2.2.2.2.2.1, B.2.2.2.2.2.2.2.2) := by
  have hs := h.s
  exact ⟨⟨fun i hi a ha => by have := dfl_lt a ha; rw [h2 _ (by omega)]; exact hs.f i hi a ha, fun i hi => by rw [h2 _ (by omega)]; exact hs.ro i hi, fun i hi => by rw [h2 _ (by omega)]; exact hs.ag i hi, h1.1, h1.2, by rw [h2 _ (by omega)]; exact hs.rl, fun t ht => by have ht' : t < B.2.2.1.length := ht; rw [h2 _ (by omega)]; exact hs.ri t ht, by rw [h2 _ (by omega)]; exact hs.tick, by rw [h2 _ (by omega)]; exact hs.mode, by rw [h2 _ (by omega)]; exact hs.step, by rw [h2 _ (by omega)]; exact hs.stay, by rw [h2 _ (by omega)]; exact hs.total, by rw [h2 _ (by omega)]; exact hs.lc, fun t ht h4 => by rw [h2 _ (by omega), h2 _ (by omega), h2 _ (by omega)]; exact hs.lg t ht h4⟩, dMP_G h3 h.P⟩
theorem dU_wdrop {i : Nat} (h : dM μ P B) (hn : P.1 ≤ 12) (hw : dL P.1 B.2.1) (hr : B.2.2.1.length ≤ 12) (hi : i < P.1) : dU μ P (F_Mo_goesOut μ 156 (dn i)) (B.1, dDrop B.2.1 i, B.2.2.1, B.2.2.2.1, B.2.2.2.2.1, B.2.2.2.2.2.1, B.2.2.2.2.2.2.1, B.2.2.2.2.2.2.2.1, B.2.2.2.2.2.2.2.2) :=
  dw_mono (dU_goes (b := 156) ⟨h.s.wl, h.s.wi⟩ hw hn (by omega) (by omega)) fun τ ⟨h1, h2, h3⟩ => ⟨dM_w h hn hr h1 h2 h3, h3⟩
theorem dU_wadd {i : Nat} (h : dM μ P B) (hn : P.1 ≤ 12) (hw : B.2.1.length < 12) (hr : B.2.2.1.length ≤ 12) : dU μ P (F_Mo_comesTo μ 156 (dn i)) (B.1, B.2.1 ++ [i], B.2.2.1, B.2.2.2.1, B.2.2.2.2.1, B.2.2.2.2.2.1, B.2.2.2.2.2.2.1, B.2.2.2.2.2.2.2.1, B.2.2.2.2.2.2.2.2) :=
  dw_mono (dU_comes (b := 156) ⟨h.s.wl, h.s.wi⟩ hw (by omega)) fun τ ⟨h1, h2, h3⟩ => ⟨dM_w h hn hr h1 h2 h3, h3⟩
end E3
end
section
/-- the rails below are those that hang on it -/
def dWH (P : dP) : Prop := ∀ i, i < P.1 → ∀ j, j < 32 → (db (P.2.2.2 10 i) j = true ↔ j < P.1 ∧ db (P.2.2.2 9 j) i = true)
section E4
variable {α : Type} {μ : pxS} {P : dP} {B B1 B2 : dB} {Q : α → Prop}
theorem dM_live {i : Nat} (h : dM μ P B) (hn : P.1 ≤ 12) (hi : i < P.1) : F_Mo_isLive μ (dn i) = some (if i ∉ B.2.2.1 ∧ B.on i then 1 else 0) := by
  have key : Mo_isLive_n18 μ (dn i) = some (if i ∉ B.2.2.1 then 1 else 0) := by
    unfold Mo_isLive_n18 Mo_isLive_n37
    rw [show 13 * dn i + 8 = dn (13 * i + 8) from ix i 8]
    unfold px_gd
    rw [if_pos ⟨dn_nn (by omega), by rw [dn_nat (by omega)]; omega⟩, dn_nat (by omega), h.s.ro i hi]
    by_cases c : i ∈ B.2.2.1
    · rw [if_pos c, if_neg (by decide), if_neg (fun z => z c)]
    · rw [if_neg c, if_pos rfl, if_pos c]
  unfold F_Mo_isLive Mo_isLive_n37
  rw [dM_state h hn hi]
  unfold px_b1
  dsimp only
  rw [key]
  unfold dB.on
  by_cases c : B.1 i 2 = 2
  · rw [if_pos c]
    by_cases c3 : i ∉ B.2.2.1
    · rw [if_pos c3, if_pos ⟨c3, Or.inl c⟩]
    · rw [if_neg c3, if_neg (fun z => c3 z.1)]
  · rw [if_neg c]
    by_cases c2 : B.1 i 2 = 3
    · rw [if_pos c2]
      by_cases c3 : i ∉ B.2.2.1
      · rw [if_pos c3, if_pos ⟨c3, Or.inr c2⟩]
      · rw [if_neg c3, if_neg (fun z => c3 z.1)]
    · rw [if_neg c2, if_neg (fun z => by rcases z.2 with y | y; exact c y; exact c2 y)]
theorem dM_lat {set : Int32} (h : dM μ P B) (hn : P.1 ≤ 12) : F_Mo_latestOf μ set = some (dOp (dLat B set P.1)) := by
  suffices hh : dw (F_Mo_latestOf μ set) (fun r => r = dOp (dLat B set P.1)) by
    obtain ⟨a, e, rfl⟩ := hh; exact e
  unfold F_Mo_latestOf
  rw [dw_b1]
  refine dw_up P.1 (by unfold px_N; omega) (fun t s => s.1 = dOp (dLat B set t) ∧ s.2 = dn t) (fun t s ht hI => ?_) (fun s hI => ?_) (Nat.zero_le _) ⟨rfl, rfl⟩
  · obtain ⟨v3, v4⟩ := s
    obtain ⟨rfl, rfl⟩ := hI
    show dw (Mo_latestOf_n4 μ set _ _) _
    unfold Mo_latestOf_n4
    refine dw_v (dM_n h) ?_
    rw [if_neg (by rw [dn_le (by omega) (by omega)]; omega)]
    have keyn : ¬ B.live set t → dw (Mo_latestOf_n63 μ set (dOp (dLat B set t)) (dn t)) (dR (fun s' => s'.1 = dOp (dLat B set (t + 1)) ∧ s'.2 = dn (t + 1)) (fun e => dw (some e) fun r => r = dOp (dLat B set P.1))) := fun c => by
      unfold Mo_latestOf_n63
      have e1 : dLat B set (t + 1) = dLat B set t := by
        conv => lhs; unfold dLat
        rw [if_neg c]
      rw [e1]
      simp only [dw_some, dR_l]
      exact ⟨trivial, dn_suc t⟩
    refine dw_ite (fun c => ?_) (fun c => ?_)
    · rw [db_sh0 (by omega)] at c
      exact keyn fun l => by rw [l.1] at c; cases c
    · rw [db_sh0 (by omega)] at c
      have c : db set t = true := by simpa using c
      refine dw_v (dM_live h hn ht) ?_
      by_cases c2 : t ∉ B.2.2.1 ∧ B.on t
      · rw [if_pos c2, if_neg (by decide)]
        have hlv : B.live set t := ⟨c, c2.1, c2.2⟩
        have e1 : dLat B set (t + 1) = (match dLat B set t with
          | none => some t
          | some j => if B.1 t 8 < B.1 j 8 then some j else some t) := by
          conv => lhs; unfold dLat
          rw [if_pos hlv]
          rfl
        unfold Mo_latestOf_n61 Mo_latestOf_n63
        cases e : dLat B set t with
        | none =>
          rw [e] at e1
          rw [e1, show dOp none = -1 from rfl]
          dsimp only
          rw [if_pos rfl]
          simp only [dw_some, dR_l]
          exact ⟨rfl, dn_suc t⟩
        | some j =>
          rw [e] at e1
          have hj := (dLat_lt e).1
          have hm1 : ¬ dn j = -1 := fun z => by
            have := congrArg Int32.toInt z
            rw [dn_toInt (by omega)] at this
            have e2 : (-1 : Int32).toInt = -1 := by decide
            rw [e2] at this
            omega
          rw [show dOp (some j) = dn j from rfl, if_neg hm1, show 13 * dn t + 4 = dn (13 * t + 4) from ix t 4, show 13 * dn j + 4 = dn (13 * j + 4) from ix j 4]
          simp only [dw_gd, dn_nat (show 13 * t + 4 < 2147483648 by omega), dn_nat (show 13 * j + 4 < 2147483648 by omega)]
          rw [h.s.f t ht (8, 4) (by decide), h.s.f j (by omega) (8, 4) (by decide)]
          refine ⟨⟨dn_nn (by omega), by omega⟩, ⟨dn_nn (by omega), by omega⟩, dw_ite (fun c2 => ?_) (fun c2 => ?_)⟩
          · dsimp only at e1 c2
            rw [if_pos c2] at e1
            rw [e1]
            simp only [dw_some, dR_l]
            exact ⟨rfl, dn_suc t⟩
          · dsimp only at e1 c2
            rw [if_neg c2] at e1
            rw [e1]
            simp only [dw_some, dR_l]
            exact ⟨rfl, dn_suc t⟩
      · rw [if_neg c2, if_pos rfl]
        exact keyn fun l => c2 ⟨l.2.1, l.2.2⟩
  · obtain ⟨v3, v4⟩ := s
    obtain ⟨rfl, rfl⟩ := hI
    show dw (Mo_latestOf_n4 μ set _ _) _
    unfold Mo_latestOf_n4
    refine dw_v (dM_n h) ?_
    rw [if_pos (by rw [dn_le (by omega) (by omega)]; omega)]
    simp only [dw_some, dR_r]
/-- those that hang on a rail -/
def dHo (P : dP) (i : Nat) : Nat → Int32
  | 0 => 0
  | t + 1 => if db (P.2.2.2 9 t) i = true then dHo P i t ||| (1 <<< (dn t &&& 31)) else dHo P i t
theorem db_ho {P : dP} {i j : Nat} : ∀ {t : Nat}, t ≤ 32 → db (dHo P i t) j = decide (j < t ∧ db (P.2.2.2 9 j) i = true) := by
  intro t
  induction t with
  | zero => intro _; simp [dHo, db_zero]
  | succ t ih =>
    intro ht
    unfold dHo
    by_cases c : db (P.2.2.2 9 t) i = true
    · rw [if_pos c, db_or, ih (by omega), db_one (by omega)]
      by_cases e : t = j
      · subst e; simp [c]
      · have : j < t + 1 ↔ j < t := by omega
        simp [e, this]
    · rw [if_neg c, ih (by omega)]
      by_cases e : j = t
      · subst e; simp [c]
      · have : j < t + 1 ↔ j < t := by omega
        simp [this]
theorem dM_ho {i : Nat} (h : dM μ P B) (hn : P.1 ≤ 12) (hH : dWH P) (hi : i < P.1) : F_Mo_hangOn μ (dn i) = some (P.2.2.2 10 i) := by
  have e0 : dHo P i P.1 = P.2.2.2 10 i := by
    apply db_ext
    intro j hj
    rw [db_ho (by omega)]
    have := hH i hi j hj
    cases e : db (P.2.2.2 10 i) j with
    | true => simp [this.mp e]
    | false =>
      rw [e] at this
      simp at this
      simp
      exact fun z => this z
  suffices hh : dw (F_Mo_hangOn μ (dn i)) (fun r => r = dHo P i P.1) by
    obtain ⟨a, e, rfl⟩ := hh; rw [e, e0]
  unfold F_Mo_hangOn
  rw [dw_b1]
  refine dw_up P.1 (by unfold px_N; omega) (fun t s => s.1 = dHo P i t ∧ s.2 = dn t) (fun t s ht hI => ?_) (fun s hI => ?_) (Nat.zero_le _) ⟨rfl, rfl⟩
  · obtain ⟨v3, v4⟩ := s
    obtain ⟨rfl, rfl⟩ := hI
    show dw (Mo_hangOn_n4 μ (dn i) _ _) _
    unfold Mo_hangOn_n4 Mo_hangOn_n32
    refine dw_v (dM_n h) ?_
    rw [if_neg (by rw [dn_le (by omega) (by omega)]; omega)]
    refine dw_gi (by omega) (by omega) ?_
    rw [dn_nat (by omega), h.P.hang t ht]
    refine dw_ite (fun c => ?_) (fun c => ?_)
    · rw [db_sh1 (by omega)] at c
      simp only [dw_some, dR_l]
      exact ⟨by rw [dHo, if_pos c], dn_suc t⟩
    · rw [db_sh1 (by omega)] at c
      simp only [dw_some, dR_l]
      exact ⟨by rw [dHo, if_neg c], dn_suc t⟩
  · obtain ⟨v3, v4⟩ := s
    obtain ⟨rfl, rfl⟩ := hI
    show dw (Mo_hangOn_n4 μ (dn i) _ _) _
    unfold Mo_hangOn_n4
    refine dw_v (dM_n h) ?_
    rw [if_pos (by rw [dn_le (by omega) (by omega)]; omega)]
    simp only [dw_some, dR_r]
end E4
end
section
def dB.inT (B : dB) (tr : Int32) (i : Nat) : dB := (B.inr i).st i 12 (if dn i = tr then 1 else 0)
def dRowT (n : Nat) (set tr : Int32) : Nat → dB → dB
  | 0, B => B
  | k + 1, B => match dLat B set n with
    | none => B
    | some i => dRowT n set tr k (B.inT tr i)
def dUnT (n : Nat) (set tr : Int32) (B : dB) : dB := dRowT n set tr 12 (dUW set n B)
theorem dWB_inT {P : dP} {B : dB} {i : Nat} {tr : Int32} (h : dWB P B) (hi : i < P.1) (hr : i ∉ B.2.2.1) (ho : B.on i) : dWB P (B.inT tr i) := dWB_st (dWB_inr h hi hr ho) (by omega)
section E5
variable {α : Type} {μ : pxS} {P : dP} {B B1 B2 : dB} {Q : α → Prop}
theorem dM_inT {i : Nat} {tr : Int32} {τ : pxS} (h : dM μ P B) (hB : dWB P B) (hn : P.1 ≤ 12) (hi : i < P.1) (hr : i ∉ B.2.2.1) (h1 : dLs (τ (1, 28, 0)) 169 (B.2.2.1 ++ [i])) (h2 : ∀ x, ¬ (169 ≤ x ∧ x ≤ 169 + 12) → τ (1, 28, 0) x = du (du (μ (1, 28, 0)) (13 * i + 8) 1) (13 * i + 12) (if dn i = tr then 1 else 0) x) (h3 : dG μ τ) : dM τ P (B.inT tr i) := by
  have hs := h.s
  have hw := dL_len hB.w
  have big : ∀ x, 156 ≤ x → ¬ (169 ≤ x ∧ x ≤ 169 + 12) → τ (1, 28, 0) x = μ (1, 28, 0) x := fun x hx hx2 => by
    rw [h2 x hx2, du_ne (by omega), du_ne (by omega)]
  have h12 : ∀ j q, q ≠ 12 → (B.inT tr i).1 j q = B.1 j q := fun j q hq => (dB.st_ne (Or.inr hq)).trans (dB.inr_ne (Or.inr hq))
  refine ⟨⟨fun j hj a ha => ?_, fun j hj => ?_, fun j hj => ?_, by rw [big _ (by omega) (by omega)]; exact hs.wl, fun t ht => by have ht' : t < B.2.1.length := ht; rw [big _ (by omega) (by omega)]; exact hs.wi t ht, h1.1, h1.2, by rw [big _ (by omega) (by omega)]; exact hs.tick, by rw [big _ (by omega) (by omega)]; exact hs.mode, by rw [big _ (by omega) (by omega)]; exact hs.step, by rw [big _ (by omega) (by omega)]; exact hs.stay, by rw [big _ (by omega) (by omega)]; exact hs.total, by rw [big _ (by omega) (by omega)]; exact hs.lc, fun t ht h4 => by rw [big _ (by omega) (by omega), big _ (by omega) (by omega), big _ (by omega) (by omega)]; exact hs.lg t ht h4⟩, dMP_G h3 h.P⟩
  · obtain ⟨l1, l2, l3, l4⟩ := dfl_lt a ha
    rw [h2 _ (by omega)]
    by_cases e : j = i ∧ a.1 = 12
    · obtain ⟨rfl, e2⟩ := e
      have e3 : a.2 = 12 := dfl_in2 a ha (12, 12) (by decide) e2
      rw [e3, e2, du_eq]
      exact dB.st_eq.symm
    · have hne : ¬ (13 * j + a.2 = 13 * i + 12) := fun z => e ⟨by omega, dfl_in a ha (12, 12) (by decide) (by show a.2 = 12; omega)⟩
      rw [du_ne hne, du_ne (by omega), hs.f j hj a ha]
      have : (B.inT tr i).1 j a.1 = B.1 j a.1 := by
        have hh : j ≠ i ∨ a.1 ≠ 12 := by
          by_cases e3 : j = i
          · exact Or.inr fun z => e ⟨e3, z⟩
          · exact Or.inl e3
        exact (dB.st_ne hh).trans (dB.inr_ne hh)
      rw [this]
  · rw [h2 _ (by omega), du_ne (by omega)]
    have e0 : (B.inT tr i).2.2.1 = B.2.2.1 ++ [i] := rfl
    rw [e0]
    by_cases e : j = i
    · subst e; rw [du_eq, if_pos (by simp)]
    · rw [du_ne (by omega), hs.ro j hj]
      by_cases c : j ∈ B.2.2.1
      · rw [if_pos c, if_pos (by simp [c])]
      · rw [if_neg c, if_neg (by simp [c, e])]
  · rw [h2 _ (by omega), du_ne (by omega), du_ne (by omega), hs.ag j hj, h12 j 11 (by omega)]
theorem dU_un {set tr : Int32} (h : dM μ P B) (hB : dWB P B) (hn : P.1 ≤ 12) : dU μ P (F_Mo_unwinds μ set tr) (dUnT P.1 set tr B) := by
  unfold F_Mo_unwinds
  refine du_T (B1 := dUW set P.1 B) (P := P) (μ := μ) ?_ fun τ hτ f1 => ?_
  · refine dw_up P.1 (by unfold px_N; omega) (fun t s => s.1 = dn t ∧ dM s.2 P (dUW set t B) ∧ dG μ s.2) (fun t s ht hI => ?_) (fun s hI => ?_) (Nat.zero_le _) ⟨rfl, h, dG_refl μ⟩
    · obtain ⟨v, τ⟩ := s
      obtain ⟨rfl, hτ, f0⟩ := hI
      dsimp only at hτ f0
      have hW := dWB_uw (set := set) hB t
      have hrl := dL_len hW.r
      show dw (Mo_unwinds_n2 τ set tr (dn t)) _
      unfold Mo_unwinds_n2 Mo_unwinds_n44
      refine dw_v (dM_n hτ) ?_
      rw [if_neg (by rw [dn_le (by omega) (by omega)]; omega)]
      refine dw_ite (fun c => ?_) (fun c => ?_)
      · rw [db_sh0 (by omega)] at c
        simp only [dw_some, dR_l]
        refine ⟨dn_suc t, ?_, f0⟩
        unfold dUW
        rw [if_neg (by rw [c]; simp)]
        exact hτ
      · rw [db_sh0 (by omega)] at c
        refine dw_v (dM_state hτ hn ht) (dw_ite (fun c2 => ?_) (fun c2 => ?_))
        · have e : dUW set (t + 1) B = (dUW set t B).out t := by
            conv => lhs; unfold dUW
            rw [if_pos ⟨by simpa using c, c2⟩]
          rw [e]
          refine du_T (dU_state hτ hn ht) fun τ1 g1 f1 => ?_
          refine du_T (dU_wdrop g1 hn hW.w (by show (dUW set t B).2.2.1.length ≤ 12; omega) ht) fun τ2 g2 f2 => ?_
          simp only [dw_some, dR_l]
          exact ⟨dn_suc t, g2, dG_trans f0 (dG_trans f1 f2)⟩
        · simp only [dw_some, dR_l]
          refine ⟨dn_suc t, ?_, f0⟩
          unfold dUW
          rw [if_neg (fun z => c2 z.2)]
          exact hτ
    · obtain ⟨v, τ⟩ := s
      obtain ⟨rfl, hτ, f0⟩ := hI
      show dw (Mo_unwinds_n2 τ set tr (dn P.1)) _
      unfold Mo_unwinds_n2
      refine dw_v (dM_n hτ) ?_
      rw [if_pos (by rw [dn_le (by omega) (by omega)]; omega)]
      simp only [dw_some, dR_r]
      exact ⟨hτ, f0⟩
  · refine dw_v (dM_lat hτ hn) ?_
    have hW := dWB_uw (set := set) hB P.1
    show dw _ (fun μ' => dM μ' P (dRowT P.1 set tr 12 (dUW set P.1 B)) ∧ dG μ μ')
    generalize dUW set P.1 B = B0 at hτ hW
    have hrl := dL_len hW.r
    refine dw_b1.mpr (dw_mono (P := fun τ' => dM τ' P (dRowT P.1 set tr 12 B0) ∧ dG μ τ') ?_ fun τ' h' => dw_some.mpr h')
    refine dw_it (fun k s => ∃ B1, s.1 = dOp (dLat B1 set P.1) ∧ dM s.2 P B1 ∧ dG μ s.2 ∧ dWB P B1 ∧ P.1 ≤ B1.2.2.1.length + k ∧ dRowT P.1 set tr k B1 = dRowT P.1 set tr 12 B0) (fun k s hI => ?_) px_N 12 _ (by unfold px_N; omega) ⟨B0, rfl, hτ, f1, hW, by omega, rfl⟩
    obtain ⟨v, ρ⟩ := s
    obtain ⟨B1, rfl, h1, h2, h3, h4, h5⟩ := hI
    dsimp only at h1 h2
    show dw (Mo_unwinds_n56 ρ set tr _) _
    unfold Mo_unwinds_n56
    cases e : dLat B1 set P.1 with
    | none =>
      have h6 : dRowT P.1 set tr k B1 = B1 := by
        cases k with
        | zero => rfl
        | succ k => rw [dRowT, e]
      rw [h6] at h5
      rw [show dOp none = -1 from rfl]
      dsimp only
      rw [if_pos rfl]
      simp only [dw_some, dR_r]
      rw [← h5]
      exact ⟨h1, h2⟩
    | some i =>
      obtain ⟨l1, l2⟩ := dLat_lt e
      have hlen := dL_len (dL_add h3.r l1 l2.2.1)
      rw [List.length_append] at hlen
      simp at hlen
      obtain ⟨k, rfl⟩ : ∃ j, k = j + 1 := ⟨k - 1, by omega⟩
      rw [dRowT, e] at h5
      dsimp only at h5
      have hm1 : ¬ dn i = -1 := fun z => by
        have := congrArg Int32.toInt z
        rw [dn_toInt (by omega)] at this
        have e2 : (-1 : Int32).toInt = -1 := by decide
        rw [e2] at this
        omega
      rw [show dOp (some i) = dn i from rfl]
      dsimp only
      rw [if_neg hm1, show 13 * dn i + 8 = dn (13 * i + 8) from ix i 8, show 13 * dn i + 12 = dn (13 * i + 12) from ix i 12]
      have key : ∀ (v : Int32), v = (if dn i = tr then 1 else 0) → dw (px_gd (dn (13 * i + 12)) 308 (px_l (px_up (px_up ρ (1, 28, 0) (13 * i + 8) 1) (1, 28, 0) (dn (13 * i + 12)).toNatClampNeg v) fun σ17 => px_b1 (F_Mo_comesTo σ17 169 (dn i)) fun σ18 => px_b1 (F_Mo_latestOf σ18 set) fun r19 => some (.inl (r19, σ18)))) (dR (fun s' => ∃ k', k' < k + 1 ∧ ∃ B1, s'.1 = dOp (dLat B1 set P.1) ∧ dM s'.2 P B1 ∧ dG μ s'.2 ∧ dWB P B1 ∧ P.1 ≤ B1.2.2.1.length + k' ∧ dRowT P.1 set tr k' B1 = dRowT P.1 set tr 12 B0) (fun τ' : pxS => dM τ' P (dRowT P.1 set tr 12 B0) ∧ dG μ τ')) := fun v hv => by
        rw [dw_gd, dn_nat (by omega), dw_l, dw_b1]
        refine ⟨⟨dn_nn (by omega), by omega⟩, ?_⟩
        have hrow : px_up (px_up ρ (1, 28, 0) (13 * i + 8) 1) (1, 28, 0) (13 * i + 12) v (1, 28, 0) = du (du (ρ (1, 28, 0)) (13 * i + 8) 1) (13 * i + 12) v := by
          rw [px_up_du, px_up_du]
        refine dw_mono (dU_comes (b := 169) (l := B1.2.2.1) ⟨by rw [hrow, du_ne (by omega), du_ne (by omega)]; exact h1.s.rl, fun t ht => by rw [hrow, du_ne (by omega), du_ne (by omega)]; exact h1.s.ri t ht⟩ (by omega) (by omega)) fun τ3 ⟨g1, g2, g3⟩ => ?_
        have hg : dG ρ τ3 := dG_trans (dG_up rfl) (dG_trans (dG_up rfl) g3)
        have g4 : dM τ3 P (B1.inT tr i) := dM_inT h1 h3 hn l1 l2.2.1 g1 (fun x hx => by rw [g2 x hx, hrow, hv]) hg
        refine dw_v (dM_lat g4 hn) ?_
        simp only [dw_some, dR_l]
        exact ⟨k, by omega, B1.inT tr i, rfl, g4, dG_trans h2 hg, dWB_inT h3 l1 l2.2.1 l2.2.2, by show P.1 ≤ (B1.2.2.1 ++ [i]).length + k; rw [List.length_append]; simp; omega, h5⟩
      rw [dw_gd, dn_nat (by omega), dw_l]
      refine ⟨⟨dn_nn (by omega), by omega⟩, dw_ite (fun c => ?_) (fun c => ?_)⟩
      · exact key 1 (by rw [if_pos c])
      · exact key 0 (by rw [if_neg c])
end E5
end
section
theorem dn_m1 {i : Nat} (h : i < 2147483648) : ¬ dn i = -1 := fun z => by
  have := congrArg Int32.toInt z
  rw [dn_toInt h] at this
  have e2 : (-1 : Int32).toInt = -1 := by decide
  rw [e2] at this
  omega
theorem dB.st_st {B : dB} {i q : Nat} {v v' : Int32} : (B.st i q v).st i q v' = B.st i q v' := by
  unfold dB.st
  congr 1
  funext j k
  dsimp only
  by_cases c : j = i ∧ k = q
  · rw [if_pos c, if_pos c]
  · rw [if_neg c, if_neg c, if_neg c]
theorem dB.st_cm {B : dB} {i j q r : Nat} {v v' : Int32} (h : i ≠ j ∨ q ≠ r) : (B.st i q v).st j r v' = (B.st j r v').st i q v := by
  unfold dB.st
  congr 1
  funext a b
  dsimp only
  by_cases c : a = j ∧ b = r
  · have : ¬ (a = i ∧ b = q) := fun z => by rcases h with h | h <;> omega
    rw [if_pos c, if_neg this, if_pos c]
  · rw [if_neg c]
    by_cases c2 : a = i ∧ b = q
    · rw [if_pos c2, if_pos c2]
    · rw [if_neg c2, if_neg c2, if_neg c]
theorem dLat_12 {B : dB} {set : Int32} {j : Nat} {v : Int32} : ∀ t, dLat (B.st j 12 v) set t = dLat B set t := by
  intro t
  induction t with
  | zero => rfl
  | succ t ih =>
    have hl : (B.st j 12 v).live set t ↔ B.live set t := by
      unfold dB.live dB.on
      rw [dB.st_ne (Or.inr (by omega))]
      exact Iff.rfl
    have h8 : ∀ a, (B.st j 12 v).1 a 8 = B.1 a 8 := fun a => dB.st_ne (Or.inr (by omega))
    unfold dLat
    rw [ih]
    by_cases c : B.live set t
    · rw [if_pos c, if_pos (hl.mpr c)]
      cases dLat B set t with
      | none => rfl
      | some a => dsimp only; rw [h8, h8]
    · rw [if_neg c, if_neg (fun z => c (hl.mp z))]
theorem dB.inT_m {B : dB} {i : Nat} {tr : Int32} (h : ¬ dn i = tr) : B.inT tr i = B.inr i := by
  unfold dB.inT
  rw [if_neg h]
  show ((B.st i 12 0).st i 12 0 |> fun (C : dB) => ((C.1, C.2.1, B.2.2.1 ++ [i], C.2.2.2.1, C.2.2.2.2.1, C.2.2.2.2.2.1, C.2.2.2.2.2.2.1, C.2.2.2.2.2.2.2.1, C.2.2.2.2.2.2.2.2) : dB)) = _
  rw [dB.st_st]
  rfl
theorem dRowT_m {n : Nat} {set : Int32} (hn : n ≤ 12) : ∀ (k : Nat) (B : dB), dRowT n set (-1) k B = dRow n set k B := by
  intro k
  induction k with
  | zero => intro B; rfl
  | succ k ih =>
    intro B
    unfold dRowT dRow
    cases e : dLat B set n with
    | none => rfl
    | some i =>
      have := (dLat_lt e).1
      dsimp only
      rw [dB.inT_m (dn_m1 (by omega)), ih]
theorem dUnT_m {n : Nat} {set : Int32} {B : dB} (hn : n ≤ 12) : dUnT n set (-1) B = dUn n set B := dRowT_m hn 12 _
theorem dRowT_c {n : Nat} {set : Int32} {j : Nat} (hn : n ≤ 12) (hj : j < n) : ∀ (k : Nat) (B : dB), j ∈ B.2.2.1 → dRowT n set (dn j) k (B.st j 12 1) = (dRow n set k B).st j 12 1 := by
  intro k
  induction k with
  | zero => intro B _; rfl
  | succ k ih =>
    intro B hr
    unfold dRowT dRow
    rw [dLat_12]
    cases e : dLat B set n with
    | none => rfl
    | some i =>
      obtain ⟨l1, l2⟩ := dLat_lt e
      have hij : i ≠ j := fun z => l2.2.1 (z ▸ hr)
      dsimp only
      have e1 : (B.st j 12 1).inT (dn j) i = (B.inr i).st j 12 1 := by
        rw [dB.inT_m (by rw [dn_inj (by omega) (by omega)]; exact hij)]
        show ((B.st j 12 1).st i 12 0 |> fun (C : dB) => ((C.1, C.2.1, B.2.2.1 ++ [i], C.2.2.2.1, C.2.2.2.2.1, C.2.2.2.2.2.1, C.2.2.2.2.2.2.1, C.2.2.2.2.2.2.2.1, C.2.2.2.2.2.2.2.2) : dB)) = _
        rw [dB.st_cm (Or.inl (Ne.symm hij))]
        rfl
      rw [e1]
      exact ih (B.inr i) (by show j ∈ B.2.2.1 ++ [i]; simp [hr])
theorem dRowT_t {P : dP} {set : Int32} {j : Nat} (hn : P.1 ≤ 12) (hj : j < P.1) : ∀ (k : Nat) (B : dB), dWB P B → P.1 ≤ B.2.2.1.length + k → B.live set j → dRowT P.1 set (dn j) k B = (dRow P.1 set k B).st j 12 1 := by
  intro k
  induction k with
  | zero =>
    intro B hB hk hl
    have := dL_len (dL_add hB.r hj hl.2.1)
    rw [List.length_append] at this
    simp at this
    omega
  | succ k ih =>
    intro B hB hk hl
    unfold dRowT dRow
    cases e : dLat B set P.1 with
    | none => exact absurd hl (dLat_none e j hj)
    | some i =>
      obtain ⟨l1, l2⟩ := dLat_lt e
      dsimp only
      by_cases hij : i = j
      · subst hij
        have e1 : B.inT (dn i) i = (B.inr i).st i 12 1 := by unfold dB.inT; rw [if_pos rfl]
        rw [e1]
        exact dRowT_c hn hj k (B.inr i) (by show i ∈ B.2.2.1 ++ [i]; simp)
      · rw [dB.inT_m (by rw [dn_inj (by omega) (by omega)]; exact hij)]
        refine ih (B.inr i) (dWB_inr hB l1 l2.2.1 l2.2.2) (by show P.1 ≤ (B.2.2.1 ++ [i]).length + k; rw [List.length_append]; simp; omega) ⟨hl.1, ?_, ?_⟩
        · show j ∉ B.2.2.1 ++ [i]
          simp [hl.2.1, Ne.symm hij]
        · unfold dB.on
          rw [dB.inr_ne (Or.inr (by omega))]
          exact hl.2.2
theorem dUnT_t {P : dP} {set : Int32} {j : Nat} {B : dB} (hn : P.1 ≤ 12) (hj : j < P.1) (hB : dWB P B) (hs : db set j = true) (hr : j ∉ B.2.2.1) (ho : B.on j) : dUnT P.1 set (dn j) B = (dUn P.1 set B).st j 12 1 := by
  have sm := dSm_uw (B := B) (set := set) P.1
  have hr2 : ∀ t, (dUW set t B).2.2.1 = B.2.2.1 := by
    intro t
    induction t with
    | zero => rfl
    | succ t ih =>
      unfold dUW
      by_cases c : db set t = true ∧ (dUW set t B).1 t 2 = 1
      · rw [if_pos c]; exact ih
      · rw [if_neg c]; exact ih
  refine dRowT_t hn hj 12 _ (dWB_uw hB P.1) (by omega) ⟨hs, by rw [hr2]; exact hr, ?_⟩
  unfold dB.on
  rw [sm.on j ho]
  exact ho
theorem db_set {P : dP} {i : Nat} (h : i < 32) : db (dSet P i) i = true := by
  unfold dSet
  rw [db_or, db_one h]
  simp
section E6
variable {α : Type} {μ : pxS} {P : dP} {B B1 B2 : dB} {Q : α → Prop}
theorem dU_wo {i : Nat} (h : dM μ P B) (hB : dWB P B) (hn : P.1 ≤ 12) (hi : i < P.1) : dU μ P (F_Mo_waitsNow μ (dn i)) (dWo B i) := by
  unfold F_Mo_waitsNow dWo
  refine dw_v (dM_state h hn hi) ?_
  by_cases c : B.1 i 2 = 0
  · rw [if_pos c, if_pos c]
    have hni : i ∉ B.2.1 := fun hm => by
      have := (hB.ws i hi).mpr hm
      rw [c] at this
      exact absurd this (by decide)
    have hlen := dL_len (dL_add hB.w hi hni)
    rw [List.length_append] at hlen
    simp at hlen
    have hrl := dL_len hB.r
    refine du_T (dU_state h hn hi) fun τ1 g1 f1 => ?_
    refine du_T (dU_wadd g1 hn (by show B.2.1.length < 12; omega) (by show B.2.2.1.length ≤ 12; omega)) fun τ2 g2 f2 => ?_
    exact dw_some.mpr ⟨g2, dG_trans f1 f2⟩
  · rw [if_neg c, if_neg c]
    exact dU_some h
theorem dU_fail {b : Int32} (h : dM μ P B) (hB : dWB P B) (hn : P.1 ≤ 12) (hl : B.2.2.2.2.2.2.2.2.length < 1000000) : dU μ P (F_Mo_fails μ b) (if b = 0 then dFail B else dUn P.1 (dAll P.1) (dFail B)) := by
  have hwl := dL_len hB.w
  have hrl := dL_len hB.r
  unfold F_Mo_fails
  rw [dU, dw_l]
  have g0 : dM (px_up μ (1, 28, 0) 183 3) P (B.1, B.2.1, B.2.2.1, B.2.2.2.1, B.2.2.2.2.1, 3, B.2.2.2.2.2.2.1, B.2.2.2.2.2.2.2.1, B.2.2.2.2.2.2.2.2) := by
    have hs := h.s
    have o : ∀ x, x ≠ 183 → px_up μ (1, 28, 0) 183 3 (1, 28, 0) x = μ (1, 28, 0) x := fun x hx => by rw [px_up_du, du_ne hx]
    exact ⟨⟨fun i hi a ha => by have := dfl_lt a ha; rw [o _ (by omega)]; exact hs.f i hi a ha, fun i hi => by rw [o _ (by omega)]; exact hs.ro i hi, fun i hi => by rw [o _ (by omega)]; exact hs.ag i hi, by rw [o _ (by omega)]; exact hs.wl, fun t ht => by have ht' : t < B.2.1.length := ht; rw [o _ (by omega)]; exact hs.wi t ht, by rw [o _ (by omega)]; exact hs.rl, fun t ht => by have ht' : t < B.2.2.1.length := ht; rw [o _ (by omega)]; exact hs.ri t ht, by rw [o _ (by omega)]; exact hs.tick, by rw [px_up_du, du_eq]; rfl, by rw [o _ (by omega)]; exact hs.step, by rw [o _ (by omega)]; exact hs.stay, by rw [o _ (by omega)]; exact hs.total, by rw [o _ (by omega)]; exact hs.lc, fun t ht h4 => by rw [o _ (by omega), o _ (by omega), o _ (by omega)]; exact hs.lg t ht h4⟩, dMP_G (dG_up rfl) h.P⟩
  refine du_T (dU_logs g0 hn hl (by show B.2.1.length ≤ 12; omega) (by show B.2.2.1.length ≤ 12; omega)) fun τ1 g1 f1 => ?_
  have f1 : dG μ τ1 := dG_trans (dG_up rfl) f1
  by_cases c : b = 0
  · rw [if_pos c, if_pos c]
    exact dw_some.mpr ⟨g1, f1⟩
  · rw [if_neg c, if_neg c]
    refine dw_v (dM_n g1) ?_
    refine du_T (dU_un (set := (1 <<< (dn P.1 &&& 31)) - 1) (tr := -1) g1 (dWB_fail hB) hn) fun τ2 g2 f2 => ?_
    rw [dUnT_m hn] at g2
    exact dw_some.mpr ⟨g2, dG_trans f1 f2⟩
end E6
end
section
section E7
variable {α : Type} {μ : pxS} {P : dP} {B B1 B2 : dB} {Q : α → Prop}
theorem du_ag {i : Nat} {v j w : Int32} {f : pxS → Option α} (h : dM μ P B) (hn : P.1 ≤ 12) (hi : i < P.1) (hj : j = dn (13 * i + 10)) (hw : w = dAg v) (hf : ∀ μ1, dM μ1 P (B.st i 11 v) → dG μ μ1 → dw (f μ1) Q) : dw (px_gd j 308 (px_l (px_up μ (1, 28, 0) j.toNatClampNeg w) f)) Q := by
  subst hj hw
  rw [dw_gd, dn_nat (by omega)]
  exact ⟨⟨dn_nn (by omega), by omega⟩, hf _ ⟨by rw [px_up_du]; exact dMs_ag h.s hn hi, dMP_G (dG_up rfl) h.P⟩ (dG_up rfl)⟩
theorem dU_ask {i : Nat} {off : Bool} (h : dM μ P B) (hB : dWB P B) (hn : P.1 ≤ 12) (hH : dWH P) (hi : i < P.1) : dU μ P (F_Mo_asks μ (dn i) (if off then 1 else 0)) (dAsk P B i off) := by
  unfold F_Mo_asks dAsk
  refine du_ag (v := -2) h hn hi (ix i 10) rfl fun τ1 h1 f1 => du_st (10, 11) h1 hn hi (by decide) (ix i 11) fun τ2 h2 f2 => du_st (12, 12) h2 hn hi (by decide) (ix i 12) fun τ h3 f3 => ?_
  have fr := dG_trans f1 (dG_trans f2 f3)
  have hB := dWB_as (i := i) hB
  change dM τ P (B.as i) at h3
  generalize B.as i = B at h3 hB
  have hrl := dL_len hB.r
  cases off with
  | false =>
    rw [if_pos (by rfl), if_pos rfl]
    exact du_T (dU_wo h3 hB hn hi) fun τ2 g2 k2 => dw_some.mpr ⟨g2, dG_trans fr k2⟩
  | true =>
    rw [if_neg (show ¬ (if true = true then (1 : Int32) else 0) = 0 by decide), if_neg (show ¬ (true = false) by decide)]
    refine dw_v (dM_state h3 hn hi) ?_
    by_cases c : B.1 i 2 = 1
    · rw [if_pos c, if_pos c]
      refine du_T (dU_state h3 hn hi) fun τ1 g1 k1 => ?_
      refine du_T (dU_wdrop g1 hn hB.w (by show B.2.2.1.length ≤ 12; omega) hi) fun τ2 g2 k2 => ?_
      exact dw_some.mpr ⟨g2, dG_trans fr (dG_trans k1 k2)⟩
    · rw [if_neg c, if_neg c]
      have key : B.on i → dw (Mo_asks_n93 τ (dn i)) (fun μ' => dM μ' P (dUn P.1 (dSet P i) B) ∧ dG μ μ') := fun _ => by
        unfold Mo_asks_n93
        refine dw_v (dM_ho h3 hn hH hi) ?_
        refine du_T (dU_un (set := dSet P i) (tr := -1) h3 hB hn) fun τ2 g2 k2 => ?_
        rw [dUnT_m hn] at g2
        exact dw_some.mpr ⟨g2, dG_trans fr k2⟩
      refine dw_v (dM_state h3 hn hi) ?_
      by_cases c2 : B.1 i 2 = 2
      · rw [if_pos c2, if_pos (show B.on i from Or.inl c2)]
        exact key (Or.inl c2)
      · rw [if_neg c2]
        refine dw_v (dM_state h3 hn hi) ?_
        by_cases c3 : B.1 i 2 = 3
        · rw [if_pos c3, if_pos (show B.on i from Or.inr c3)]
          exact key (Or.inr c3)
        · rw [if_neg c3, if_neg (fun z : B.on i => by rcases z with y | y; exact c2 y; exact c3 y)]
          exact dw_some.mpr ⟨h3, fr⟩
theorem dU_trip {i : Nat} (h : dM μ P B) (hB : dWB P B) (hn : P.1 ≤ 12) (hH : dWH P) (hi : i < P.1) (hr : i ∉ B.2.2.1) (ho : B.on i) (hl : B.2.2.2.2.2.2.2.2.length < 999990) (hm : B.2.2.2.2.2.1 < 4) : dU μ P (F_Mo_trips μ (dn i)) (dTrip P B i) := by
  have hwl := dL_len hB.w
  have hrl := dL_len hB.r
  unfold F_Mo_trips
  rw [show 13 * dn i + 5 = dn (13 * i + 5) from ix i 5]
  refine dw_gi (by omega) (by omega) ?_
  rw [dn_nat (by omega), h.s.f i hi (9, 5) (by decide)]
  rw [← dn_nat (show 13 * i + 5 < 2147483648 by omega)]
  rw [dn_nat (show 13 * i + 5 < 2147483648 by omega)]
  have e5 : (dn (13 * i + 5)).toNatClampNeg = 13 * i + 5 := dn_nat (by omega)
  refine dw_gi (by omega) (by omega) ?_
  rw [dw_l]
  have g0 : dM (px_up μ (1, 28, 0) (13 * i + 5) (B.1 i 9 + 1)) P (B.st i 9 (B.1 i 9 + 1)) := dM_st (a := (9, 5)) h hn hi (by decide)
  have k0 : dG μ (px_up μ (1, 28, 0) (13 * i + 5) (B.1 i 9 + 1)) := dG_up rfl
  refine du_T (dU_logs g0 hn (by show B.2.2.2.2.2.2.2.2.length < _; omega) (by show B.2.1.length ≤ 12; omega) (by show B.2.2.1.length ≤ 12; omega)) fun τ1 g1 k1 => ?_
  have hB1 : dWB P ((B.st i 9 (B.1 i 9 + 1)).wr (dn i) 2) := dWB_wr (dWB_st hB (by omega))
  refine dw_v (dM_ho g1 hn hH hi) ?_
  refine du_T (dU_un (set := dSet P i) (tr := dn i) g1 hB1 hn) fun τ2 g2 k2 => ?_
  have ho1 : ((B.st i 9 (B.1 i 9 + 1)).wr (dn i) 2).on i := by
    show (B.st i 9 (B.1 i 9 + 1)).on i
    unfold dB.on
    rw [dB.st_ne (Or.inr (by omega))]
    exact ho
  rw [dUnT_t hn hi hB1 (db_set (by omega)) hr ho1] at g2
  change dM τ2 P (dTr0 P B i) at g2
  have sm : dSm ((B.st i 9 (B.1 i 9 + 1)).wr (dn i) 2) (dUn P.1 (dSet P i) ((B.st i 9 (B.1 i 9 + 1)).wr (dn i) 2)) := dSm_un
  have e1 : (dTr0 P B i).2.2.2.2.2.1 = B.2.2.2.2.2.1 := sm.mode
  have e2 : (dTr0 P B i).2.2.2.2.2.2.2.2.length = B.2.2.2.2.2.2.2.2.length + 1 := congrArg List.length sm.log
  have hB2 : dWB P (dTr0 P B i) := dWB_st (dWB_un hB1) (by omega)
  rw [g2.s.mode]
  unfold dTrip
  have kk := dG_trans k0 (dG_trans k1 k2)
  by_cases c : (dTr0 P B i).2.2.2.2.2.1 = 1
  · rw [if_pos c, if_pos (by rw [c]; rfl)]
    refine du_T (dU_fail (b := 0) g2 hB2 hn (by omega)) fun τ3 g3 k3 => ?_
    rw [if_pos rfl] at g3
    exact dw_some.mpr ⟨g3, dG_trans kk k3⟩
  · rw [if_neg c, if_neg (by rw [show (1 : Int32) = dn 1 from rfl, dn_inj (by omega) (by omega)]; exact c)]
    exact dw_some.mpr ⟨g2, kk⟩
end E7
end
section
section E8
variable {α : Type} {μ : pxS} {P : dP} {B B1 B2 : dB} {Q : α → Prop}
theorem du_ag2 {i : Nat} {v w : Int32} {f : pxS → Option α} (h : dM μ P B) (hn : P.1 ≤ 12) (hi : i < P.1) (hw : w = dAg v) (hf : ∀ μ1, dM μ1 P (B.st i 11 v) → dG μ μ1 → dw (f μ1) Q) : dw (px_gd (dn (13 * i + 10)) 308 (px_l (px_up μ (1, 28, 0) (13 * i + 10) w) f)) Q := by
  have := du_ag (j := dn (13 * i + 10)) (f := f) h hn hi rfl hw hf
  rw [dn_nat (by omega)] at this
  exact this
/-- a loop over the rails that takes the row on -/
theorem dU_for {f : Int32 × pxS → Option ((Int32 × pxS) ⊕ pxS)} (N : Nat) (hN : N < px_N) (S : Nat → dB) (h : dM μ P (S 0)) (hs : ∀ t τ, t < N → dM τ P (S t) → dw (f (dn t, τ)) (dR (fun s => s.1 = dn (t + 1) ∧ dM s.2 P (S (t + 1)) ∧ dG τ s.2) (fun _ => False))) (hx : ∀ τ, dM τ P (S N) → f (dn N, τ) = some (.inr τ)) : dU μ P (px_it f px_N (0, μ)) (S N) := by
  refine dw_up N hN (fun t s => s.1 = dn t ∧ dM s.2 P (S t) ∧ dG μ s.2) (fun t s ht hI => ?_) (fun s hI => ?_) (Nat.zero_le _) ⟨rfl, h, dG_refl μ⟩
  · obtain ⟨v, τ⟩ := s
    obtain ⟨rfl, h1, h2⟩ := hI
    refine dw_mono (hs t τ ht h1) fun r hr => ?_
    cases r with
    | inl s => exact ⟨hr.1, hr.2.1, dG_trans h2 hr.2.2⟩
    | inr e => exact hr.elim
  · obtain ⟨v, τ⟩ := s
    obtain ⟨rfl, h1, h2⟩ := hI
    rw [hx τ h1]
    simp only [dw_some, dR_r]
    exact ⟨h1, h2⟩
theorem dAg_eq {x : Int32} {t : Nat} (h1 : 1 ≤ t) (h2 : t < 2147483648) : (¬ dAg x = 0 ∧ dAg x = dn t) ↔ x = dn t := by
  unfold dAg
  have h0 : ¬ dn t = 0 := by
    rw [show (0 : Int32) = dn 0 from rfl, dn_inj h2 (by omega)]; omega
  by_cases c : x = -2
  · rw [if_pos c, c]
    constructor
    · intro z; exact absurd rfl z.1
    · intro z
      have := congrArg Int32.toInt z
      rw [dn_toInt h2] at this
      have e2 : (-2 : Int32).toInt = -2 := by decide
      rw [e2] at this
      omega
  · rw [if_neg c]
    constructor
    · intro z; exact z.2
    · intro z; rw [z]; exact ⟨h0, rfl⟩
theorem dU_ca (h : dM μ P B) (hB : dWB P B) (hn : P.1 ≤ 12) (hl : B.2.2.2.2.2.2.2.2.length < 900000) (ht1 : 1 ≤ B.2.2.2.1) (ht2 : B.2.2.2.1 < 100000) : dU μ P (F_Mo_comeAgain μ) (dCA P B) := by
  unfold F_Mo_comeAgain dCA
  refine du_T ?_ fun τ h' k' => dw_some.mpr ⟨h', k'⟩
  have inv := dFo_inv (g := dCA1) (I := fun t B' => dWB P B' ∧ B'.2.2.2.2.2.2.2.2.length ≤ B.2.2.2.2.2.2.2.2.length + t ∧ B'.2.2.2.1 = B.2.2.2.1) (n := P.1) (B := B) ⟨hB, Nat.le_refl _, rfl⟩ (fun t B' ht' ⟨h1, h2, h3⟩ => ⟨dWB_ca1 h1 ht', by have := (dCA1_l B' t).1; omega, ((dCA1_l B' t).2.2.1).trans h3⟩)
  refine dU_for P.1 (by unfold px_N; omega) (fun t => dFo dCA1 t B) h (fun t τ htn hτ => ?_) (fun τ hτ => ?_)
  · obtain ⟨hW, hL, hT⟩ := inv t (by omega)
    show dw (Mo_comeAgain_n2 τ (dn t)) (dR (fun s => s.1 = dn (t + 1) ∧ dM s.2 P (dCA1 (dFo dCA1 t B) t) ∧ dG τ s.2) _)
    generalize dFo dCA1 t B = B' at hτ hW hL hT
    have hwl := dL_len hW.w
    have hrl := dL_len hW.r
    unfold Mo_comeAgain_n2 Mo_comeAgain_n103
    refine dw_v (dM_n hτ) ?_
    rw [if_neg (by rw [dn_le (by omega) (by omega)]; omega), show 13 * dn t + 10 = dn (13 * t + 10) from ix t 10, show 13 * dn t + 11 = dn (13 * t + 11) from ix t 11]
    refine dw_gi (by omega) (by omega) ?_
    rw [dn_nat (by omega), hτ.s.ag t htn, hτ.s.tick]
    have heq := dAg_eq (x := B'.1 t 11) (t := B'.2.2.2.1) (by omega) (by omega)
    have hno : ¬ B'.1 t 11 = dn B'.2.2.2.1 → dw (some (.inl (dn t + 1, τ)) : Option ((Int32 × pxS) ⊕ pxS)) (dR (fun s => s.1 = dn (t + 1) ∧ dM s.2 P (dCA1 B' t) ∧ dG τ s.2) (fun _ => False)) := fun c => by
      unfold dCA1
      rw [if_neg c]
      simp only [dw_some, dR_l]
      exact ⟨dn_suc t, hτ, dG_refl τ⟩
    refine dw_ite (fun c => hno fun z => (heq.mpr z).1 c) (fun c => dw_gi (by omega) (by omega) (dw_ite (fun c2 => ?_) (fun c2 => hno fun z => c2 (heq.mpr z).2)))
    have c3 : B'.1 t 11 = dn B'.2.2.2.1 := heq.mp ⟨c, c2⟩
    unfold dCA1
    rw [if_pos c3]
    refine du_ag2 (v := -2) hτ hn htn (by decide) fun τ1 g1 k1 => ?_
    refine dw_v (dM_state g1 hn htn) ?_
    rw [dB.st_ne (Or.inr (by omega))]
    by_cases c4 : B'.1 t 2 = 0
    · rw [if_pos c4, if_pos c4]
      have e : dWo (B'.st t 11 (-2)) t = (B'.st t 11 (-2)).wt t := by
        unfold dWo
        rw [if_pos (by rw [dB.st_ne (Or.inr (by omega))]; exact c4)]
      refine du_T (dU_wo g1 (dWB_st hW (by omega)) hn htn) fun τ2 g2 k2 => ?_
      rw [e] at g2
      have hW2 : dWB P ((B'.st t 11 (-2)).wt t) := dWB_wt (dWB_st hW (by omega)) htn (by rw [dB.st_ne (Or.inr (by omega))]; exact c4)
      have hwl2 := dL_len hW2.w
      refine dw_gi (by omega) (by omega) ?_
      have e2 : ((B'.st t 11 (-2)).wt t).1 t 10 = B'.1 t 10 := (dB.st_ne (Or.inr (by omega))).trans (dB.st_ne (Or.inr (by omega)))
      have e11 : τ2 (1, 28, 0) (dn (13 * t + 11)).toNatClampNeg = B'.1 t 10 := by
        rw [dn_nat (by omega), g2.s.f t htn (10, 11) (by decide)]; exact e2
      rw [e11]
      refine du_st (10, 11) g2 hn htn (by decide) rfl fun τ3 g3 k3 => ?_
      refine du_T (dU_logs g3 hn (by show B'.2.2.2.2.2.2.2.2.length < _; omega) (by show ((B'.st t 11 (-2)).wt t).2.1.length ≤ 12; omega) (by show B'.2.2.1.length ≤ 12; omega)) fun τ4 g4 k4 => ?_
      simp only [dw_some, dR_l]
      exact ⟨dn_suc t, g4, dG_trans k1 (dG_trans k2 (dG_trans k3 k4))⟩
    · rw [if_neg c4, if_neg c4]
      simp only [dw_some, dR_l]
      exact ⟨dn_suc t, g1, k1⟩
  · show Mo_comeAgain_n2 τ (dn P.1) = _
    unfold Mo_comeAgain_n2
    rw [dM_n hτ]
    unfold px_b1
    dsimp only
    rw [if_pos (by rw [dn_le (by omega) (by omega)]; omega)]
end E8
end
section
section E9
variable {α : Type} {μ : pxS} {P : dP} {B B1 B2 : dB} {Q : α → Prop}
theorem dM_bd {q : Nat} {v : Int32} (h : dM μ P B) (hB : dWB P B) (hn : P.1 ≤ 12) (hq : 182 ≤ q ∧ q < 187) (hw : B1.1 = B.1 ∧ B1.2.1 = B.2.1 ∧ B1.2.2.1 = B.2.2.1 ∧ B1.2.2.2.2.2.2.2.2 = B.2.2.2.2.2.2.2.2) (h5 : (if q = 182 then v else dn B.2.2.2.1) = dn B1.2.2.2.1) (h6 : (if q = 186 then v else B.2.2.2.2.1) = B1.2.2.2.2.1) (h7 : (if q = 183 then v else dn B.2.2.2.2.2.1) = dn B1.2.2.2.2.2.1) (h8 : (if q = 184 then v else dn B.2.2.2.2.2.2.1) = dn B1.2.2.2.2.2.2.1) (h9 : (if q = 185 then v else dn B.2.2.2.2.2.2.2.1) = dn B1.2.2.2.2.2.2.2.1) : dM (px_up μ (1, 28, 0) q v) P B1 := by
  have hwl := dL_len hB.w
  have hrl := dL_len hB.r
  obtain ⟨w1, w2, w3, w4⟩ := hw
  have hs := h.s
  have o : ∀ x, x ≠ q → px_up μ (1, 28, 0) q v (1, 28, 0) x = μ (1, 28, 0) x := fun x hx => by rw [px_up_du, du_ne hx]
  have o2 : ∀ x, px_up μ (1, 28, 0) q v (1, 28, 0) x = if q = x then v else μ (1, 28, 0) x := fun x => by
    rw [px_up_du, du]
    simp [eq_comm]
  refine ⟨⟨fun i hi a ha => by have := dfl_lt a ha; rw [o _ (by omega), w1]; exact hs.f i hi a ha, fun i hi => by rw [o _ (by omega), w3]; exact hs.ro i hi, fun i hi => by rw [o _ (by omega), w1]; exact hs.ag i hi, by rw [o _ (by omega), w2]; exact hs.wl, fun t ht => ?_, by rw [o _ (by omega), w3]; exact hs.rl, fun t ht => ?_, by rw [o2, hs.tick]; exact h5, by rw [o2, hs.mode]; exact h7, by rw [o2, hs.step]; exact h8, by rw [o2, hs.stay]; exact h9, by rw [o2, hs.total]; exact h6, by rw [o _ (by omega), w4]; exact hs.lc, fun t ht h4 => ?_⟩, dMP_G (dG_up rfl) h.P⟩
  · simp only [w2] at ht ⊢
    rw [o _ (by omega)]; exact hs.wi t ht
  · simp only [w3] at ht ⊢
    rw [o _ (by omega)]; exact hs.ri t ht
  · simp only [w4] at ht ⊢
    rw [o _ (by omega), o _ (by omega), o _ (by omega)]; exact hs.lg t ht h4
theorem du_bd {q : Nat} {v : Int32} {f : pxS → Option α} (B1 : dB) (h : dM μ P B) (hB : dWB P B) (hn : P.1 ≤ 12) (hq : 182 ≤ q ∧ q < 187) (hw : B1.1 = B.1 ∧ B1.2.1 = B.2.1 ∧ B1.2.2.1 = B.2.2.1 ∧ B1.2.2.2.2.2.2.2.2 = B.2.2.2.2.2.2.2.2) (h5 : (if q = 182 then v else dn B.2.2.2.1) = dn B1.2.2.2.1) (h6 : (if q = 186 then v else B.2.2.2.2.1) = B1.2.2.2.2.1) (h7 : (if q = 183 then v else dn B.2.2.2.2.2.1) = dn B1.2.2.2.2.2.1) (h8 : (if q = 184 then v else dn B.2.2.2.2.2.2.1) = dn B1.2.2.2.2.2.2.1) (h9 : (if q = 185 then v else dn B.2.2.2.2.2.2.2.1) = dn B1.2.2.2.2.2.2.2.1) (hf : ∀ σ1, dM σ1 P B1 → dG μ σ1 → dw (f σ1) Q) : dw (px_l (px_up μ (1, 28, 0) q v) f) Q :=
  hf _ (dM_bd h hB hn hq hw h5 h6 h7 h8 h9) (dG_up rfl)
/-- a step, as the reference takes it -/
theorem dU_stp (h : dM μ P B) (hP : dWP P) (hS : dWS P) (hH : dWH P) (hB : dWB P B) (hs : B.2.2.2.2.2.2.1 < P.2.2.1) (hm : B.2.2.2.2.2.1 = 1) (hy : B.2.2.2.2.2.2.2.1 ≤ 100) (hz : dSy P B) (hl : B.2.2.2.2.2.2.2.2.length < 900000) : dw (F_Mo_isThrough μ (dn B.2.2.2.2.2.2.1)) (fun r => r.1 = (if (dStp P B).1 then 1 else 0) ∧ dM r.2 P (dStp P B).2 ∧ dG μ r.2) := by
  have hn := hP.n
  have hst := hP.st
  obtain ⟨s1, s2, t, s3, s4, s5⟩ := hS B.2.2.2.2.2.2.1 hs
  obtain ⟨z1, z2⟩ := hz hm hs
  rw [s4, dn_nat (by omega)] at z1 z2
  unfold F_Mo_isThrough Mo_isThrough_n133
  refine dw_gi (by omega) (by omega) (dw_gi (by omega) (by omega) ?_)
  rw [dn_nat (by omega), h.P.s 11 (by omega) (by omega) B.2.2.2.2.2.2.1 hs, h.P.s 12 (by omega) (by omega) B.2.2.2.2.2.2.1 hs]
  unfold dStp
  rw [s4, dn_nat (by omega)]
  by_cases c0 : P.2.2.2 11 B.2.2.2.2.2.2.1 = 0
  · obtain ⟨j, hj, ej⟩ := s2 (by rw [c0]; decide)
    rw [if_pos c0, if_pos c0, ej, dn_nat (by omega)]
    exact du_T (dU_ask (off := false) h hB hn hH hj) fun τ h1 f1 => dw_some.mpr ⟨rfl, h1, f1⟩
  · rw [if_neg c0, if_neg c0]
    by_cases c1 : P.2.2.2 11 B.2.2.2.2.2.2.1 = 1
    · obtain ⟨j, hj, ej⟩ := s2 (by rw [c1]; decide)
      rw [if_pos c1, if_pos c1, ej, dn_nat (by omega)]
      exact du_T (dU_ask (off := true) h hB hn hH hj) fun τ h1 f1 => dw_some.mpr ⟨rfl, h1, f1⟩
    · rw [if_neg c1, if_neg c1]
      by_cases c2 : P.2.2.2 11 B.2.2.2.2.2.2.1 = 2
      · have z1 := z1 c2
        rw [if_pos c2, if_pos c2]
        refine dw_gi (by omega) (by omega) ?_
        rw [h.P.s 13 (by omega) (by omega) B.2.2.2.2.2.2.1 hs, s4, h.s.stay]
        by_cases c3 : B.2.2.2.2.2.2.2.1 < t
        · rw [if_pos c3, if_neg (by rw [dn_inj (by omega) (by omega)]; omega), dn_suc]
          exact du_bd (B.1, B.2.1, B.2.2.1, B.2.2.2.1, B.2.2.2.2.1, B.2.2.2.2.2.1, B.2.2.2.2.2.2.1, B.2.2.2.2.2.2.2.1 + 1, B.2.2.2.2.2.2.2.2) h hB hn (by omega) ⟨rfl, rfl, rfl, rfl⟩ rfl rfl rfl rfl rfl fun τ h1 f1 => dw_some.mpr ⟨rfl, h1, f1⟩
        · rw [if_neg c3, if_pos (by rw [dn_inj (by omega) (by omega)]; omega)]
          exact dw_some.mpr ⟨rfl, h, dG_refl μ⟩
      · obtain ⟨j, hj, ej⟩ := s2 c2
        have c33 : P.2.2.2 11 B.2.2.2.2.2.2.1 = 3 := by
          rcases s1 with z | z | z | z
          · exact absurd z c0
          · exact absurd z c1
          · exact absurd z c2
          · exact z
        have z2 := z2 c33
        rw [if_neg c2, if_neg c2, ej]
        refine dw_v (dM_gd h hn hj) ?_
        rw [dn_nat (by omega)]
        by_cases c4 : B.gd P j
        · rw [if_pos c4, if_neg (by decide), if_pos c4]
          exact dw_some.mpr ⟨rfl, h, dG_refl μ⟩
        · rw [if_neg c4, if_pos rfl, if_neg c4, h.s.stay, dn_suc]
          refine du_bd (B.1, B.2.1, B.2.2.1, B.2.2.2.1, B.2.2.2.2.1, B.2.2.2.2.2.1, B.2.2.2.2.2.2.1, B.2.2.2.2.2.2.2.1 + 1, B.2.2.2.2.2.2.2.2) h hB hn (by omega) ⟨rfl, rfl, rfl, rfl⟩ rfl rfl rfl rfl rfl fun τ h1 f1 => ?_
          refine dw_gi (by omega) (by omega) ?_
          rw [h1.P.s 13 (by omega) (by omega) B.2.2.2.2.2.2.1 hs, s4, h1.s.stay]
          by_cases c5 : B.2.2.2.2.2.2.2.1 + 1 < t
          · rw [if_pos c5, if_neg (by rw [dn_inj (by show B.2.2.2.2.2.2.2.1 + 1 < _; omega) (by omega)]; show ¬ B.2.2.2.2.2.2.2.1 + 1 = t; omega)]
            exact dw_some.mpr ⟨rfl, h1, f1⟩
          · rw [if_neg c5, if_pos (by rw [dn_inj (by show B.2.2.2.2.2.2.2.1 + 1 < _; omega) (by omega)]; show B.2.2.2.2.2.2.2.1 + 1 = t; omega)]
            refine du_T (dU_fail (b := 1) h1 (dWB_md hB rfl rfl rfl) hn (by show B.2.2.2.2.2.2.2.2.length < _; omega)) fun τ2 g2 f2 => ?_
            rw [if_neg (by decide)] at g2
            exact dw_some.mpr ⟨rfl, g2, dG_trans f1 f2⟩
end E9
end
