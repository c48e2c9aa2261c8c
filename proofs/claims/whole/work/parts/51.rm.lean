section
/-! the class reads a text -/
def rS (tk : Nat → dTok) : Nat → rRes
  | 0 => .ok rP0 (fun _ => false) 0
  | t + 1 => rLine tk (rS tk t)
def rDone (tk : Nat → dTok) : rRes → Prop
  | .inl (_, _, k) => (tk k).1 = 0
  | .inr (_, _) => True
/-- the tokens of a text, its last again and again -/
def dtk (bt : Nat → Nat) (n M k : Nat) : dTok := dTs' bt n (min k M)
section I2
variable {tk : Nat → dTok} {M q n c k : Nat} {σ0 σ σ' : pxS} {s : rRes} {P P' : dP} {T T' : Nat → Bool} {k' : Nat} {bt : Nat → Nat}
theorem rLine_4 (h : rLine tk (.ok P T k) = .ok P' T' k') : ∃ k1, k' = k1 + 1 ∧ (tk k1).1 = 4 := by
  replace h : (if (tk k).1 = 2 ∧ (tk k).2.1 ≠ 13 then rTk tk 4 (rBody tk P T k (tk k).2.1.toNatClampNeg) else .bad 1 (tk k).2.2.2.1) = .ok P' T' k' := h
  by_cases c : (tk k).1 = 2 ∧ (tk k).2.1 ≠ 13
  · rw [if_pos c] at h
    cases e : rBody tk P T k (tk k).2.1.toNatClampNeg with
    | inr zz =>
      obtain ⟨f, pl⟩ := zz
      rw [e] at h; cases h
    | inl zz =>
      obtain ⟨P1, T1, k1⟩ := zz
      rw [e, rTk_ok] at h
      by_cases c1 : (tk k1).1 = 4
      · rw [if_pos c1] at h; cases h; exact ⟨k1, rfl, c1⟩
      · rw [if_neg c1] at h; cases h
  · rw [if_neg c] at h; cases h
theorem rS_p (hv : rV3 tk) (hM : ∀ k, M ≤ k → (tk k).1 = 0) : ∀ t, (∀ P T k, rS tk t = .ok P T k → t ≤ k ∧ k ≤ M ∧ dWR P) := by
  intro t
  induction t with
  | zero => intro P T k h; cases h; exact ⟨Nat.le_refl _, Nat.zero_le _, dWR_0⟩
  | succ t ih =>
    intro P T k h
    replace h : rLine tk (rS tk t) = .ok P T k := h
    cases e : rS tk t with
    | inr zz =>
      obtain ⟨f, pl⟩ := zz
      rw [e] at h; cases h
    | inl zz =>
      obtain ⟨P1, T1, k1⟩ := zz
      rw [e] at h
      obtain ⟨h1, h2, h3⟩ := ih P1 T1 k1 e
      obtain ⟨h4, h5⟩ := rLine_inv hv h3 h
      obtain ⟨k2, rfl, h6⟩ := rLine_4 h
      refine ⟨by omega, ?_, h5⟩
      refine Classical.byContradiction fun z => ?_
      have := hM k2 (by omega)
      omega
theorem rEx (hv : rV3 tk) (hM : ∀ k, M ≤ k → (tk k).1 = 0) : ∃ t, t ≤ M ∧ rDone tk (rS tk t) ∧ ∀ t', t' < t → ∃ P T k, rS tk t' = .ok P T k ∧ (tk k).1 ≠ 0 := by
  obtain ⟨t, t1, t2, t3⟩ := @dleast (fun t => rDone tk (rS tk t)) (fun _ => Classical.propDecidable _) M
  refine ⟨t, t1, ?_, fun t' ht => ?_⟩
  · rcases t3 with z | z
    · cases e : rS tk t with
      | inr zz =>
        obtain ⟨f, pl⟩ := zz
        exact trivial
      | inl zz =>
        obtain ⟨P, T, k⟩ := zz
        exact hM k (by have := (rS_p hv hM t P T k e).1; omega)
    · exact z
  · have := t2 t' ht
    cases e : rS tk t' with
    | inr zz =>
      obtain ⟨f, pl⟩ := zz
      rw [e] at this; exact absurd trivial this
    | inl zz =>
      obtain ⟨P, T, k⟩ := zz
      rw [e] at this; exact ⟨P, T, k, rfl, this⟩
theorem dforget (hq : q < 2) : dw (F_Pl_forget σ (dn q)) (fun τ => τ (1, q, 0) 0 = 0 ∧ τ (1, q, 0) 1 = 0 ∧ τ (1, q, 0) 2 = 0 ∧ (∀ i, i < 8 → τ (8, q, 14) i = rP0.2.2.2 14 i) ∧ ∀ j, j ≠ (1, q, 0) → (∀ a, j ≠ (8, q, a)) → τ j = σ j) := by
  unfold F_Pl_forget
  rw [dn_nat (show q < 2147483648 by omega)]
  simp only [dw_l, dw_some]
  refine ⟨by simp [px_up], by simp [px_up], by simp [px_up], fun i hi => ?_, fun j h1 h2 => ?_⟩
  · show _ = if i = 0 then (50 : Int32) else if i = 1 then 500 else if i = 2 then 90 else if i = 3 then 1 else if i = 4 then 0 else if i = 5 then 10 else if i = 6 then 99999 else 0
    rcases (show i = 0 ∨ i = 1 ∨ i = 2 ∨ i = 3 ∨ i = 4 ∨ i = 5 ∨ i = 6 ∨ i = 7 by omega) with e | e | e | e | e | e | e | e <;> rw [e] <;> simp [px_up]
  · funext x
    simp [px_up, h1, h2 14]
theorem dtk_K {m : Nat} (hm : m ≤ n) (hn : n ≤ 700) (h0 : (dTs' bt n m).1 = 0) (h1 : ∀ k, k < m → (dTs' bt n k).1 ≠ 0) : dTK (dtk bt n m) m ∧ rV3 (dtk bt n m) ∧ ∀ k, m ≤ k → (dtk bt n m k).1 = 0 := by
  have tf : ∀ k, dTf bt n (dE (dBl bt n) n (dPs bt n k)) (dTs' bt n k) := fun k => by rw [dTs_k]; exact dTa_f
  refine ⟨⟨by omega, fun k _ => (tf _).k5, fun k hk => ⟨fun z => ?_, fun z => by unfold dtk; rw [z, Nat.min_self]; exact h0⟩, fun k _ z => (tf _).v3 z, fun k _ z => (tf _).v2 z⟩, fun k z => ?_, fun k hk => by unfold dtk; rw [Nat.min_eq_right hk]; exact h0⟩
  · refine Classical.byContradiction fun y => h1 k (by omega) ?_
    unfold dtk at z
    rw [Nat.min_eq_left hk] at z
    exact z
  · obtain ⟨x, x1, x2, _⟩ := (tf _).v3 z
    exact ⟨x, x1, x2⟩
theorem creadAll {m t : Nat} (hn : n ≤ 700) (hq : q < 2) (hb : ∀ t, t < n → bt t < 256 ∧ σ (5, 0, 0) t &&& 255 = dn (bt t)) (wl : ∀ k, k < 14 → σ (12, 0, 0) k = dn (dNm (wX k) 6)) (h6 : σ (6, 0, 0) 0 = dn q) (hm : m ≤ n) (h0 : (dTs' bt n m).1 = 0) (h1 : ∀ k, k < m → (dTs' bt n k).1 ≠ 0) (hp : ∀ k, k ≤ m → k ≤ dPs bt n k ∧ dPs bt n k ≤ n) (ht : t ≤ m) (hd : rDone (dtk bt n m) (rS (dtk bt n m) t)) (hd1 : ∀ t', t' < t → ∃ P T k, rS (dtk bt n m) t' = .ok P T k ∧ (dtk bt n m k).1 ≠ 0) : dw (F_Re_readAll σ (dn n)) (fun r => r.1 = dn t ∧ ∃ σ0 n', dFr5 σ σ0 ∧ dCR (dtk bt n m) m q σ0 n' 0 (rS (dtk bt n m) t) r.2) := by
  obtain ⟨hK, _, _⟩ := dtk_K hm hn h0 h1
  unfold F_Re_readAll
  rw [dw_b1]
  refine dw_mono (dcutAll hn hb wl hm h0 h1 hp) fun σ1 ⟨g7, gr, gf⟩ => ?_
  have q1 : σ1 (6, 0, 0) 0 = dn q := by rw [gf.1 _ (by simp)]; exact h6
  rw [q1, dw_b1]
  refine dw_mono (dforget hq) fun σ2 ⟨f0, f1, f2, f3, f4⟩ => ?_
  simp only [dw_l]
  have e6 : σ2 (6, 0, 0) = σ1 (6, 0, 0) := f4 _ (by simp) (by simp)
  have e12 : ∀ a, σ2 (12, a, 0) = σ1 (12, a, 0) := fun a => f4 _ (by simp) (by simp)
  generalize hτ : px_up (px_up (px_up σ2 (6, 0, 0) 14 0) (6, 0, 0) 1 0) (6, 0, 0) 13 0 = τ
  have t6 : d6 [1, 13, 14] σ2 τ := by rw [← hτ]; exact d6_trans (d6_trans (d6_up (by simp)) (d6_up (by simp))) (d6_up (by simp))
  have t1 : τ (6, 0, 0) 1 = 0 := by rw [← hτ, up_6, if_neg (by omega), up_6, if_pos rfl]
  have t13 : τ (6, 0, 0) 13 = dn 0 := by rw [← hτ, up_6, if_pos rfl]; rfl
  have t14 : τ (6, 0, 0) 14 = 0 := by rw [← hτ, up_6, if_neg (by omega), up_6, if_neg (by omega), up_6, if_pos rfl]
  have t7 : τ (6, 0, 0) 7 = dn (m + 1) := by rw [t6.1 _ (by simp), e6]; exact g7
  have tr : ∀ k, k < m + 1 → τ (12, 1, 0) k = dn (dtk bt n m k).1 ∧ τ (12, 2, 0) k = (dtk bt n m k).2.1 ∧ τ (12, 3, 0) k = dn (dtk bt n m k).2.2.2.1 := fun k hk => by
    rw [t6.2 _ (by simp), t6.2 _ (by simp), t6.2 _ (by simp), e12, e12, e12]
    unfold dtk
    rw [Nat.min_eq_left (by omega)]
    exact gr.r k hk
  have hadv : dw (F_Re_advance τ) (dCR (dtk bt n m) m q σ1 0 0 (rS (dtk bt n m) 0)) := by
    unfold F_Re_advance
    rw [t13, t7, if_neg (dn_nn (by omega)), if_neg (by rw [dn_le (by omega) (by omega)]; omega), if_neg (by decide)]
    refine dw_gi (by omega) (by omega) ?_
    rw [dn_nat (by omega), (tr 0 (by omega)).1]
    simp only [dw_l]
    rw [show px_up τ (6, 0, 0) 11 (dn (dtk bt n m 0).1) (6, 0, 0) 13 = dn 0 from by rw [up_6, if_neg (by omega)]; exact t13]
    refine dw_gi (by omega) (by omega) ?_
    rw [dn_nat (by omega), up_6o (by simp), (tr 0 (by omega)).2.1]
    simp only [dw_l, dw_some]
    rw [show px_up (px_up τ (6, 0, 0) 11 (dn (dtk bt n m 0).1)) (6, 0, 0) 12 (dtk bt n m 0).2.1 (6, 0, 0) 13 = dn 0 from by rw [up_6, if_neg (by omega), up_6, if_neg (by omega)]; exact t13, dn_suc]
    generalize hτ2 : px_up (px_up (px_up τ (6, 0, 0) 11 (dn (dtk bt n m 0).1)) (6, 0, 0) 12 (dtk bt n m 0).2.1) (6, 0, 0) 13 (dn (0 + 1)) = τ2
    have u6 : d6 [11, 12, 13] τ τ2 := by rw [← hτ2]; exact d6_trans (d6_trans (d6_up (by simp)) (d6_up (by simp))) (d6_up (by simp))
    have u1 : ∀ x, x ≠ 0 → τ2 (x, q, 0) = τ (x, q, 0) ∨ x = 6 := fun x _ => by
      by_cases c : x = 6
      · exact Or.inr c
      · exact Or.inl (u6.2 _ (by simp [c]))
    have u2 : τ2 (1, q, 0) = σ2 (1, q, 0) := by rw [u6.2 _ (by simp), t6.2 _ (by simp)]
    have u3 : ∀ a, τ2 (8, q, a) = σ2 (8, q, a) := fun a => by rw [u6.2 _ (by simp), t6.2 _ (by simp)]
    refine ⟨⟨hq, hK, fun j j1 j2 j3 => ?_, ?_, ?_, fun k hk => ?_⟩, Nat.zero_le _, ?_, ⟨0, Nat.zero_le _, ?_⟩, ⟨0, Nat.zero_le _, ?_⟩, ?_⟩
    · rw [u6.2 _ j1, t6.2 _ j1]; exact f4 j j2 j3
    · rw [u6.1 _ (by simp), t6.1 _ (by simp), e6]; exact q1
    · rw [u6.1 _ (by simp)]; exact t7
    · rw [u6.2 _ (by simp), u6.2 _ (by simp), u6.2 _ (by simp)]; exact tr k hk
    · rw [u2]; exact f0
    · rw [u2]; exact f1
    · rw [u2]; exact f2
    · refine ⟨rfl, Nat.zero_le _, by rw [u6.1 _ (by simp)]; exact t1, by rw [← hτ2, up_6, if_pos rfl], by rw [← hτ2, up_6, if_neg (by omega), up_6, if_neg (by omega), up_6, if_pos rfl], by rw [← hτ2, up_6, if_neg (by omega), up_6, if_pos rfl], fun w _ => by rw [u6.1 _ (by simp), t14, db_zero], ⟨by rw [u2]; exact f1, Nat.zero_le _⟩, ⟨by rw [u2]; exact f2, Nat.zero_le _⟩, fun a i _ hi => absurd hi (by omega), fun a i _ _ hi => absurd hi (Nat.not_lt_zero _), fun i hi => by rw [u3]; exact f3 i hi⟩
  rw [dw_b1]
  refine dw_mono hadv fun σ6 h6 => ?_
  rw [dw_b1]
  refine dw_mono (P := fun e : Int32 × pxS => e.1 = dn t ∧ ∃ n', dCR (dtk bt n m) m q σ1 n' 0 (rS (dtk bt n m) t) e.2) ?_ fun e ⟨e1, n', e2⟩ => dw_some.mpr ⟨e1, σ1, n', gf, e2⟩
  refine dw_up t (by unfold px_N; omega) (fun x s => s.1 = dn x ∧ s.2.1 = dn x ∧ ∃ n', dCR (dtk bt n m) m q σ1 n' 0 (rS (dtk bt n m) x) s.2.2) (fun x s hx hI => ?_) (fun s hI => ?_) (Nat.zero_le _) ⟨rfl, rfl, 0, h6⟩
  · obtain ⟨v, w, τ⟩ := s
    obtain ⟨rfl, rfl, n', hI⟩ := hI
    show dw (Re_readAll_n35 τ (dn x) (dn x)) _
    unfold Re_readAll_n35
    obtain ⟨P, T, k, e, hk⟩ := hd1 x hx
    dsimp only at hI
    have hnext : rS (dtk bt n m) (x + 1) = rLine (dtk bt n m) (rS (dtk bt n m) x) := rfl
    rw [e] at hI hnext
    have hs : dCO (dtk bt n m) m q n' 0 P T k τ := hI.s
    have k5 := hK.k5 k hs.hk
    rw [hI.X.h7, if_neg (by rw [dn_le (by omega) (by omega)]; omega), hs.kd, if_neg (by rw [show (0 : Int32) = dn 0 from rfl, dn_inj (by omega) (by omega)]; exact hk), if_pos hs.f0, dw_b1]
    refine dw_mono (cLine hI hk) fun τ2 h2 => dw_some.mpr ⟨dn_suc x, dn_suc x, ?_⟩
    rw [hnext]; exact h2
  · obtain ⟨v, w, τ⟩ := s
    obtain ⟨rfl, rfl, n', hI⟩ := hI
    show dw (Re_readAll_n35 τ (dn t) (dn t)) _
    unfold Re_readAll_n35
    dsimp only at hI
    have key : dR (fun _ => False) (fun e : Int32 × pxS => e.1 = dn t ∧ ∃ n', dCR (dtk bt n m) m q σ1 n' 0 (rS (dtk bt n m) t) e.2) (Sum.inr (dn t, τ) : (Int32 × Int32 × pxS) ⊕ (Int32 × pxS)) := ⟨rfl, n', hI⟩
    rw [hI.X.h7, if_neg (by rw [dn_le (by omega) (by omega)]; omega)]
    cases e : rS (dtk bt n m) t with
    | inr zz =>
      obtain ⟨f, pl⟩ := zz
      rw [e] at hI key
      by_cases c : τ (6, 0, 0) 11 = 0
      · rw [if_pos c]; exact dw_some.mpr key
      · rw [if_neg c, if_neg (dCB_ne hI.s)]; exact dw_some.mpr key
    | inl zz =>
      obtain ⟨P, T, k⟩ := zz
      rw [e] at hI key hd
      have hs : dCO (dtk bt n m) m q n' 0 P T k τ := hI.s
      have hd : (dtk bt n m k).1 = 0 := hd
      rw [if_pos (by rw [hs.kd, hd]; rfl)]
      exact dw_some.mpr key
end I2
end
section
/-! the reference follows -/
abbrev dMX (bt : Nat → Nat) (N M : Nat) (μ0 μ : pxS) : Prop := (dKM μ bt N) ∧ (dTK (dtk bt N M) M) ∧ (∀ k, k ≤ M → dPs bt N k ≤ N) ∧ (∀ j, j ≠ (0, 0, 0) → (∀ a, 3 ≤ a → a ≤ 15 → j ≠ (1, a, 0)) → μ j = μ0 j) ∧ (∀ q, q ∉ [16, 18, 19, 20, 21, 22, 23] → μ (0, 0, 0) q = μ0 (0, 0, 0) q) ∧ (∀ x, x < 11 → μ (1, 3, 0) x = μ0 (1, 3, 0) x) ∧ (∀ a x, 5 ≤ a → a ≤ 12 → x < 12 → μ (1, a, 0) x = μ0 (1, a, 0) x) ∧ (∀ a x, 13 ≤ a → a ≤ 15 → x < 24 → μ (1, a, 0) x = μ0 (1, a, 0) x)
theorem dMX.KM {bt : Nat → Nat} {N M : Nat} {μ0 μ : pxS} (h0 : dMX bt N M μ0 μ) : dKM μ bt N := h0.1
theorem dMX.K {bt : Nat → Nat} {N M : Nat} {μ0 μ : pxS} (h0 : dMX bt N M μ0 μ) : dTK (dtk bt N M) M := h0.2.1
theorem dMX.hp {bt : Nat → Nat} {N M : Nat} {μ0 μ : pxS} (h0 : dMX bt N M μ0 μ) : ∀ k, k ≤ M → dPs bt N k ≤ N := h0.2.2.1
theorem dMX.fr {bt : Nat → Nat} {N M : Nat} {μ0 μ : pxS} (h0 : dMX bt N M μ0 μ) : ∀ j, j ≠ (0, 0, 0) → (∀ a, 3 ≤ a → a ≤ 15 → j ≠ (1, a, 0)) → μ j = μ0 j := h0.2.2.2.1
theorem dMX.f0 {bt : Nat → Nat} {N M : Nat} {μ0 μ : pxS} (h0 : dMX bt N M μ0 μ) : ∀ q, q ∉ [16, 18, 19, 20, 21, 22, 23] → μ (0, 0, 0) q = μ0 (0, 0, 0) q := h0.2.2.2.2.1
theorem dMX.f3 {bt : Nat → Nat} {N M : Nat} {μ0 μ : pxS} (h0 : dMX bt N M μ0 μ) : ∀ x, x < 11 → μ (1, 3, 0) x = μ0 (1, 3, 0) x := h0.2.2.2.2.2.1
theorem dMX.f5 {bt : Nat → Nat} {N M : Nat} {μ0 μ : pxS} (h0 : dMX bt N M μ0 μ) : ∀ a x, 5 ≤ a → a ≤ 12 → x < 12 → μ (1, a, 0) x = μ0 (1, a, 0) x := h0.2.2.2.2.2.2.1
theorem dMX.f13 {bt : Nat → Nat} {N M : Nat} {μ0 μ : pxS} (h0 : dMX bt N M μ0 μ) : ∀ a x, 13 ≤ a → a ≤ 15 → x < 24 → μ (1, a, 0) x = μ0 (1, a, 0) x := h0.2.2.2.2.2.2.2
def dst (i : Nat) : Nat := if i = 0 then 3 else if i = 1 then 4 else if i = 2 then 5 else if i = 3 then 8 else if i = 4 then 9 else if i = 5 then 10 else if i = 6 then 6 else 7
abbrev dMO (bt : Nat → Nat) (N M n c : Nat) (P : dP) (T : Nat → Bool) (k : Nat) (μ : pxS) : Prop := (P.1 = n) ∧ (k ≤ M) ∧ (μ (0, 0, 0) 22 = 0) ∧ (μ (0, 0, 0) 18 = dn (dTs' bt N k).2.2.2.2) ∧ (μ (0, 0, 0) 19 = dn (dTs' bt N k).2.2.2.1) ∧ (μ (0, 0, 0) 20 = dn (dRk (dTs' bt N k).1)) ∧ ((dTs' bt N k).1 = 1 ∨ (dTs' bt N k).1 = 2 → μ (0, 0, 0) 21 = (dTs' bt N k).2.1) ∧ ((dTs' bt N k).1 = 3 → μ (0, 0, 0) 21 = dn (dTs' bt N k).2.2.1) ∧ (∀ w, w < 14 → μ (1, 4, 0) w = if T w = true then 1 else 0) ∧ (μ (1, 3, 0) 12 = dn P.2.1 ∧ P.2.1 ≤ 20) ∧ (μ (1, 3, 0) 13 = dn P.2.2.1 ∧ P.2.2.1 ≤ 24) ∧ (∀ a i, a < 8 → (i < n ∨ (i = n ∧ a < c)) → μ (1, a + 5, 0) (12 + i) = P.2.2.2 a i) ∧ (∀ a i, 11 ≤ a → a < 14 → i < P.2.2.1 → μ (1, a + 2, 0) (24 + i) = P.2.2.2 a i) ∧ (∀ i, i < 8 → μ (1, 3, 0) (11 + dst i) = P.2.2.2 14 i)
theorem dMO.hn {bt : Nat → Nat} {N M n c : Nat} {P : dP} {T : Nat → Bool} {k : Nat} {μ : pxS} (h0 : dMO bt N M n c P T k μ) : P.1 = n := h0.1
theorem dMO.hk {bt : Nat → Nat} {N M n c : Nat} {P : dP} {T : Nat → Bool} {k : Nat} {μ : pxS} (h0 : dMO bt N M n c P T k μ) : k ≤ M := h0.2.1
theorem dMO.f0 {bt : Nat → Nat} {N M n c : Nat} {P : dP} {T : Nat → Bool} {k : Nat} {μ : pxS} (h0 : dMO bt N M n c P T k μ) : μ (0, 0, 0) 22 = 0 := h0.2.2.1
theorem dMO.ha {bt : Nat → Nat} {N M n c : Nat} {P : dP} {T : Nat → Bool} {k : Nat} {μ : pxS} (h0 : dMO bt N M n c P T k μ) : μ (0, 0, 0) 18 = dn (dTs' bt N k).2.2.2.2 := h0.2.2.2.1
theorem dMO.pl {bt : Nat → Nat} {N M n c : Nat} {P : dP} {T : Nat → Bool} {k : Nat} {μ : pxS} (h0 : dMO bt N M n c P T k μ) : μ (0, 0, 0) 19 = dn (dTs' bt N k).2.2.2.1 := h0.2.2.2.2.1
theorem dMO.kd {bt : Nat → Nat} {N M n c : Nat} {P : dP} {T : Nat → Bool} {k : Nat} {μ : pxS} (h0 : dMO bt N M n c P T k μ) : μ (0, 0, 0) 20 = dn (dRk (dTs' bt N k).1) := h0.2.2.2.2.2.1
theorem dMO.v {bt : Nat → Nat} {N M n c : Nat} {P : dP} {T : Nat → Bool} {k : Nat} {μ : pxS} (h0 : dMO bt N M n c P T k μ) : (dTs' bt N k).1 = 1 ∨ (dTs' bt N k).1 = 2 → μ (0, 0, 0) 21 = (dTs' bt N k).2.1 := h0.2.2.2.2.2.2.1
theorem dMO.r {bt : Nat → Nat} {N M n c : Nat} {P : dP} {T : Nat → Bool} {k : Nat} {μ : pxS} (h0 : dMO bt N M n c P T k μ) : (dTs' bt N k).1 = 3 → μ (0, 0, 0) 21 = dn (dTs' bt N k).2.2.1 := h0.2.2.2.2.2.2.2.1
theorem dMO.t {bt : Nat → Nat} {N M n c : Nat} {P : dP} {T : Nat → Bool} {k : Nat} {μ : pxS} (h0 : dMO bt N M n c P T k μ) : ∀ w, w < 14 → μ (1, 4, 0) w = if T w = true then 1 else 0 := h0.2.2.2.2.2.2.2.2.1
theorem dMO.m {bt : Nat → Nat} {N M n c : Nat} {P : dP} {T : Nat → Bool} {k : Nat} {μ : pxS} (h0 : dMO bt N M n c P T k μ) : μ (1, 3, 0) 12 = dn P.2.1 ∧ P.2.1 ≤ 20 := h0.2.2.2.2.2.2.2.2.2.1
theorem dMO.st {bt : Nat → Nat} {N M n c : Nat} {P : dP} {T : Nat → Bool} {k : Nat} {μ : pxS} (h0 : dMO bt N M n c P T k μ) : μ (1, 3, 0) 13 = dn P.2.2.1 ∧ P.2.2.1 ≤ 24 := h0.2.2.2.2.2.2.2.2.2.2.1
theorem dMO.a {bt : Nat → Nat} {N M n c : Nat} {P : dP} {T : Nat → Bool} {k : Nat} {μ : pxS} (h0 : dMO bt N M n c P T k μ) : ∀ a i, a < 8 → (i < n ∨ (i = n ∧ a < c)) → μ (1, a + 5, 0) (12 + i) = P.2.2.2 a i := h0.2.2.2.2.2.2.2.2.2.2.2.1
theorem dMO.s {bt : Nat → Nat} {N M n c : Nat} {P : dP} {T : Nat → Bool} {k : Nat} {μ : pxS} (h0 : dMO bt N M n c P T k μ) : ∀ a i, 11 ≤ a → a < 14 → i < P.2.2.1 → μ (1, a + 2, 0) (24 + i) = P.2.2.2 a i := h0.2.2.2.2.2.2.2.2.2.2.2.2.1
theorem dMO.e {bt : Nat → Nat} {N M n c : Nat} {P : dP} {T : Nat → Bool} {k : Nat} {μ : pxS} (h0 : dMO bt N M n c P T k μ) : ∀ i, i < 8 → μ (1, 3, 0) (11 + dst i) = P.2.2.2 14 i := h0.2.2.2.2.2.2.2.2.2.2.2.2.2
def dMB (f pl : Nat) (μ : pxS) : Prop := μ (0, 0, 0) 22 = dn f ∧ (1 ≤ f ∧ f ≤ 4) ∧ μ (0, 0, 0) 23 = dn pl
def dMRs (bt : Nat → Nat) (N M n c : Nat) (μ : pxS) : rRes → Prop
  | .inl (P, T, k) => dMO bt N M n c P T k μ
  | .inr (f, pl) => dMB f pl μ
abbrev dMR (bt : Nat → Nat) (N M : Nat) (μ0 : pxS) (L : Int32) (n c : Nat) (s : rRes) (μ : pxS) : Prop := (dMX bt N M μ0 μ) ∧ (n ≤ 12) ∧ (μ (1, 3, 0) 11 = dn n) ∧ (∃ m, m ≤ 20 ∧ μ (1, 3, 0) 12 = dn m) ∧ (∃ st, st ≤ 24 ∧ μ (1, 3, 0) 13 = dn st) ∧ (μ (0, 0, 0) 16 = L) ∧ (dMRs bt N M n c μ s)
theorem dMR.X {bt : Nat → Nat} {N M : Nat} {μ0 : pxS} {L : Int32} {n c : Nat} {s : rRes} {μ : pxS} (h0 : dMR bt N M μ0 L n c s μ) : dMX bt N M μ0 μ := h0.1
theorem dMR.n12 {bt : Nat → Nat} {N M : Nat} {μ0 : pxS} {L : Int32} {n c : Nat} {s : rRes} {μ : pxS} (h0 : dMR bt N M μ0 L n c s μ) : n ≤ 12 := h0.2.1
theorem dMR.hn {bt : Nat → Nat} {N M : Nat} {μ0 : pxS} {L : Int32} {n c : Nat} {s : rRes} {μ : pxS} (h0 : dMR bt N M μ0 L n c s μ) : μ (1, 3, 0) 11 = dn n := h0.2.2.1
theorem dMR.hm {bt : Nat → Nat} {N M : Nat} {μ0 : pxS} {L : Int32} {n c : Nat} {s : rRes} {μ : pxS} (h0 : dMR bt N M μ0 L n c s μ) : ∃ m, m ≤ 20 ∧ μ (1, 3, 0) 12 = dn m := h0.2.2.2.1
theorem dMR.hs {bt : Nat → Nat} {N M : Nat} {μ0 : pxS} {L : Int32} {n c : Nat} {s : rRes} {μ : pxS} (h0 : dMR bt N M μ0 L n c s μ) : ∃ st, st ≤ 24 ∧ μ (1, 3, 0) 13 = dn st := h0.2.2.2.2.1
theorem dMR.ln {bt : Nat → Nat} {N M : Nat} {μ0 : pxS} {L : Int32} {n c : Nat} {s : rRes} {μ : pxS} (h0 : dMR bt N M μ0 L n c s μ) : μ (0, 0, 0) 16 = L := h0.2.2.2.2.2.1
theorem dMR.s {bt : Nat → Nat} {N M : Nat} {μ0 : pxS} {L : Int32} {n c : Nat} {s : rRes} {μ : pxS} (h0 : dMR bt N M μ0 L n c s μ) : dMRs bt N M n c μ s := h0.2.2.2.2.2.2
section I3
variable {bt : Nat → Nat} {N M n c k : Nat} {μ0 μ μ' : pxS} {L : Int32} {s : rRes} {P : dP} {T : Nat → Bool}
theorem dtk_l (h : k ≤ M) : dtk bt N M k = dTs' bt N k := by unfold dtk; rw [Nat.min_eq_left h]
theorem dMX_0 {qs : List Nat} (h : dMX bt N M μ0 μ) (g : d0 qs μ μ') (hs : ∀ q ∈ qs, q ∈ [16, 18, 19, 20, 21, 22, 23]) : dMX bt N M μ0 μ' :=
  ⟨dKM_0 h.KM (fun z => absurd (hs _ z) (by simp)) g, h.K, h.hp, fun j h1 h2 => (g.2 j h1).trans (h.fr j h1 h2), fun q hq => (g.1 q fun z => hq (hs q z)).trans (h.f0 q hq), fun x hx => by rw [g.2 _ (by simp)]; exact h.f3 x hx, fun a x h1 h2 h3 => by rw [g.2 _ (by simp)]; exact h.f5 a x h1 h2 h3, fun a x h1 h2 h3 => by rw [g.2 _ (by simp)]; exact h.f13 a x h1 h2 h3⟩
theorem dMR_bad {f pl : Nat} (h : dMR bt N M μ0 L n c s μ) (g : d0 [18, 19, 20, 21, 22, 23] μ μ') (hf : dMB f pl μ') : dMR bt N M μ0 L n c (.bad f pl) μ' :=
  ⟨dMX_0 h.X g (by simp), h.n12, by rw [g.2 _ (by simp)]; exact h.hn, by rw [g.2 _ (by simp)]; exact h.hm, by rw [g.2 _ (by simp)]; exact h.hs, by rw [g.1 _ (by simp)]; exact h.ln, hf⟩
theorem dMB_ne {f pl : Nat} (h : dMB f pl μ) : ¬ μ (0, 0, 0) 22 = 0 := by
  rw [h.1, show (0 : Int32) = dn 0 from rfl, dn_inj (by have := h.2.1; omega) (by omega)]
  have := h.2.1; omega
theorem mTok (h : dMR bt N M μ0 L n c (.ok P T k) μ) (hk : (dtk bt N M k).1 ≠ 0) : dw (F_Mo_token μ) (dMR bt N M μ0 L n c (.ok P T (k + 1))) := by
  have hs : dMO bt N M n c P T k μ := h.s
  have hX := h.X
  have hkM : k < M := by
    have := hs.hk
    have : k ≠ M := fun e => hk ((hX.K.k0 k hs.hk).mpr e)
    omega
  have hps : dPs bt N (k + 1) = (dTs' bt N k).2.2.2.2 := rfl
  have hp := hX.hp (k + 1) (by omega)
  have hN := hX.KM.hn
  refine dw_mono (dtokM hX.KM hs.ha (by omega)) fun μ' ⟨g1, g2, g3, g4, g5, g6⟩ => ?_
  have e : dTk bt N (dTs' bt N k).2.2.2.2 = dTs' bt N (k + 1) := rfl
  rw [e] at g1 g2 g3 g4 g5
  refine ⟨dMX_0 hX g6 (by simp), h.n12, by rw [g6.2 _ (by simp)]; exact h.hn, by rw [g6.2 _ (by simp)]; exact h.hm, by rw [g6.2 _ (by simp)]; exact h.hs, by rw [g6.1 _ (by simp)]; exact h.ln, ?_⟩
  exact ⟨hs.hn, hkM, by rw [g6.1 _ (by simp)]; exact hs.f0, g1, g2, g3, g4, g5, by rw [g6.2 _ (by simp)]; exact hs.t, by rw [g6.2 _ (by simp)]; exact hs.m, by rw [g6.2 _ (by simp)]; exact hs.st, fun a i h1 h2 => by rw [g6.2 _ (by simp)]; exact hs.a a i h1 h2, fun a i h1 h2 h3 => by rw [g6.2 _ (by simp)]; exact hs.s a i h1 h2 h3, fun i hi => by rw [g6.2 _ (by simp)]; exact hs.e i hi⟩
theorem mWrong {f : Nat} (h : dMR bt N M μ0 L n c s μ) (hf : 1 ≤ f ∧ f ≤ 4) : dw (F_Mo_wrong μ (dn f)) (dMR bt N M μ0 L n c (rFl (dtk bt N M) f s)) := by
  unfold F_Mo_wrong
  cases s with
  | inr zz =>
    obtain ⟨f', pl⟩ := zz
    rw [if_neg (dMB_ne h.s)]; exact dw_some.mpr h
  | inl zz =>
    obtain ⟨P, T, k⟩ := zz
    have hs : dMO bt N M n c P T k μ := h.s
    rw [if_pos hs.f0, dw_l, dw_l, dw_some]
    show dMR bt N M μ0 L n c (.bad f (dtk bt N M k).2.2.2.1) _
    exact dMR_bad h (d0_trans (d0_up (by simp)) (d0_up (by simp))) ⟨by rw [up_0, if_neg (by omega), up_0, if_pos rfl], hf, by rw [up_0, if_pos rfl, up_0, if_neg (by omega), dtk_l hs.hk]; exact hs.pl⟩
theorem mGo (h : dMR bt N M μ0 L n c s μ) (hk : ∀ P T k, s = .ok P T k → (dtk bt N M k).1 ≠ 0) : dw (F_Mo_goOn μ) (dMR bt N M μ0 L n c (rGo s)) := by
  unfold F_Mo_goOn
  cases s with
  | inr zz =>
    obtain ⟨f', pl⟩ := zz
    rw [if_neg (dMB_ne h.s)]; exact dw_some.mpr h
  | inl zz =>
    obtain ⟨P, T, k⟩ := zz
    have hs : dMO bt N M n c P T k μ := h.s
    rw [if_pos hs.f0, dw_b1]
    exact dw_mono (mTok h (hk P T k rfl)) fun _ h => dw_some.mpr h
theorem dRk_3 {a : Nat} (h : a ≤ 5) : (dn (dRk a) = 2 ↔ a = 3) ∧ (dn (dRk a) = 1 ↔ a = 1) ∧ (dn (dRk a) = 0 ↔ a = 2) ∧ (dn (dRk a) = 3 ↔ a = 4) ∧ (dn (dRk a) = 4 ↔ a = 0) := by
  rcases (show a = 0 ∨ a = 1 ∨ a = 2 ∨ a = 3 ∨ a = 4 ∨ a = 5 by omega) with e | e | e | e | e | e <;> subst e <;> decide
theorem mNum {l m : Nat} (hm : m < 1000000) (hl : l ≤ m) (h : dMR bt N M μ0 L n c s μ) : dw (F_Mo_numeral μ (dn l) (dn m)) (fun r => dMR bt N M μ0 L n c (rNm (dtk bt N M) l m s) r.2 ∧ ∀ P T k, rNm (dtk bt N M) l m s = .ok P T k → r.1 = rV (dtk bt N M) s) := by
  have n46b : ∀ {f pl : Nat} {μ' : pxS} {v : Int32}, dMR bt N M μ0 L n c (.bad f pl) μ' → dw (Mo_numeral_n46 μ' v) (fun r => dMR bt N M μ0 L n c (.bad f pl) r.2) := fun h => by
    unfold Mo_numeral_n46
    rw [if_neg (dMB_ne h.s), dw_b1]
    exact dw_mono (mGo h fun P T k z => by cases z) fun _ h => dw_some.mpr h
  unfold F_Mo_numeral
  cases s with
  | inr zz =>
    obtain ⟨f', pl⟩ := zz
    rw [if_neg (dMB_ne h.s)]; exact dw_some.mpr ⟨h, fun P T k z => by cases z⟩
  | inl zz =>
    obtain ⟨P, T, k⟩ := zz
    have hs : dMO bt N M n c P T k μ := h.s
    have k5 := h.X.K.k5 k hs.hk
    have hv3 := h.X.K.v3 k hs.hk
    rw [if_pos hs.f0, hs.kd, rNm_ok]
    rw [dtk_l hs.hk] at k5 hv3 ⊢
    by_cases c1 : (dTs' bt N k).1 = 3
    · rw [if_pos ((dRk_3 k5).1.mpr c1), if_pos c1, hs.r c1]
      obtain ⟨x, x1, x2, x3, x4, x5⟩ := hv3 c1
      have cl : dn (dTs' bt N k).2.2.1 < dn l ↔ (dTs' bt N k).2.1 < dn l := by
        rw [x2, dn_lt (by omega) (by omega), dn_lt (by omega) (by omega)]
        by_cases c : x < 1000000
        · rw [x4 c]
        · have := x5 (by omega); omega
      have cm : dn (dTs' bt N k).2.2.1 ≤ dn m ↔ ¬ dn m < (dTs' bt N k).2.1 := by
        rw [x2, dn_le (by omega) (by omega), dn_lt (by omega) (by omega)]
        by_cases c : x < 1000000
        · rw [x4 c]; omega
        · have := x5 (by omega); omega
      have bad : (dTs' bt N k).2.1 < dn l ∨ dn m < (dTs' bt N k).2.1 → dw (Mo_numeral_n41 μ (dn l)) (fun r => dMR bt N M μ0 L n c (if (dTs' bt N k).2.1 < dn l ∨ dn m < (dTs' bt N k).2.1 then .bad 2 (dTs' bt N k).2.2.2.1 else .ok P T (k + 1)) r.2 ∧ ∀ P' T' k', (if (dTs' bt N k).2.1 < dn l ∨ dn m < (dTs' bt N k).2.1 then rRes.bad 2 (dTs' bt N k).2.2.2.1 else .ok P T (k + 1)) = .ok P' T' k' → r.1 = rV (dtk bt N M) (.ok P T k)) := fun z => by
        rw [if_pos z]
        unfold Mo_numeral_n41
        rw [dw_b1]
        refine dw_mono (mWrong (f := 2) h (by omega)) fun τ hτ => ?_
        have hτ : dMR bt N M μ0 L n c (.bad 2 (dtk bt N M k).2.2.2.1) τ := hτ
        rw [dtk_l hs.hk] at hτ
        exact dw_mono (n46b hτ) fun r hr => ⟨hr, fun P T k z => by cases z⟩
      by_cases d1 : (dTs' bt N k).2.1 < dn l
      · rw [if_pos (cl.mpr d1)]; exact bad (Or.inl d1)
      · rw [if_neg (fun z => d1 (cl.mp z))]
        by_cases d2 : dn m < (dTs' bt N k).2.1
        · rw [if_neg (fun z => cm.mp z d2)]; exact bad (Or.inr d2)
        · rw [if_pos (cm.mpr d2), if_neg (fun z => z.elim d1 d2)]
          unfold Mo_numeral_n46
          rw [if_pos hs.f0, dw_b1]
          refine dw_mono (mGo h fun P' T' k' z => by cases z; rw [dtk_l hs.hk]; omega) fun τ hτ => dw_some.mpr ⟨hτ, fun _ _ _ _ => ?_⟩
          show μ (0, 0, 0) 21 = (dtk bt N M k).2.1
          rw [dtk_l hs.hk, hs.r c1, x2]
          rw [x2, dn_lt (by omega) (by omega)] at d2
          rw [x4 (by omega)]
    · rw [if_neg (fun z => c1 ((dRk_3 k5).1.mp z)), if_neg c1, dw_b1]
      refine dw_mono (mWrong (f := 1) h (by omega)) fun τ hτ => ?_
      have hτ : dMR bt N M μ0 L n c (.bad 1 (dtk bt N M k).2.2.2.1) τ := hτ
      rw [dtk_l hs.hk] at hτ
      exact dw_mono (n46b hτ) fun r hr => ⟨hr, fun P T k z => by cases z⟩
theorem mReading {j : Nat} (hj : j < 11) : F_Mo_reading μ (dn j) = some (μ (1, 3, 0) (11 + j)) := by
  unfold F_Mo_reading
  rw [show (11 : Int32) = dn 11 from rfl, dn_add, px_gi (by omega) (by omega), dn_nat (by omega)]
theorem mReads {j : Nat} {v : Int32} (hj : j < 11) : F_Mo_reads μ (dn j) v = some (px_up μ (1, 3, 0) (11 + j) v) := by
  unfold F_Mo_reads
  rw [show (11 : Int32) = dn 11 from rfl, dn_add, px_gi (by omega) (by omega), dn_nat (by omega)]
  rfl
theorem mFind (h : dMR bt N M μ0 L n c (.ok P T k) μ) {v : Int32} : dw (F_Mo_namedAt μ 12 (dn n) v) (fun r => r = dfn (P.2.2.2 0) P.1 v) := by
  have hs : dMO bt N M n c P T k μ := h.s
  have hn := h.n12
  refine dw_mono (dMo_named (b := 12) (by omega)) fun r hr => ?_
  rw [hs.hn]
  exact dfn_e (dFd_c (fun i hi => hs.a 0 i (by omega) (Or.inl hi)) hr)
theorem mRl (h : dMR bt N M μ0 L n c s μ) : dw (F_Mo_railHere μ) (fun r => dMR bt N M μ0 L n c (rRl (dtk bt N M) s) r.2 ∧ ∀ P T k, rRl (dtk bt N M) s = .ok P T k → r.1 = rF (dtk bt N M) s) := by
  unfold F_Mo_railHere
  cases s with
  | inr zz =>
    obtain ⟨f', pl⟩ := zz
    rw [if_neg (dMB_ne h.s)]; exact dw_some.mpr ⟨h, fun P T k z => by cases z⟩
  | inl zz =>
    obtain ⟨P, T, k⟩ := zz
    have hs : dMO bt N M n c P T k μ := h.s
    have k5 := h.X.K.k5 k hs.hk
    rw [if_pos hs.f0, hs.kd]
    rw [dtk_l hs.hk] at k5
    have e1 : rRl (dtk bt N M) (.ok P T k) = if (dTs' bt N k).1 = 1 then (if dfn (P.2.2.2 0) P.1 (dTs' bt N k).2.1 = -1 then .bad 4 (dTs' bt N k).2.2.2.1 else .ok P T k) else .bad 1 (dTs' bt N k).2.2.2.1 := by rw [rRl_ok, dtk_l hs.hk]
    have e2 : rF (dtk bt N M) (.ok P T k) = dfn (P.2.2.2 0) P.1 (dTs' bt N k).2.1 := by show dfn (P.2.2.2 0) P.1 (dtk bt N M k).2.1 = _; rw [dtk_l hs.hk]
    rw [e1, e2]
    by_cases c1 : (dTs' bt N k).1 = 1
    · rw [if_pos ((dRk_3 k5).2.1.mpr c1), if_pos c1]
      unfold Mo_railHere_n22
      rw [if_pos hs.f0]
      refine dw_v (mReading (j := 0) (by omega)) ?_
      rw [h.hn, hs.v (Or.inl c1), dw_b1]
      refine dw_mono (mFind h) fun r hr => ?_
      rw [hr]
      have hn := h.n12
      have hPn := hs.hn
      rcases dfn_r (g := P.2.2.2 0) (n := P.1) (v := (dTs' bt N k).2.1) with z | ⟨i, hi, z⟩
      · rw [z, if_pos rfl, if_pos rfl, dw_b1]
        refine dw_mono (mWrong (f := 4) h (by omega)) fun τ hτ => ?_
        have hτ : dMR bt N M μ0 L n c (.bad 4 (dtk bt N M k).2.2.2.1) τ := hτ
        rw [dtk_l hs.hk] at hτ
        unfold Mo_railHere_n59
        rw [if_pos rfl]
        exact dw_some.mpr ⟨hτ, fun P T k z => by cases z⟩
      · have z1 : ¬ dn i = -1 := dn_m1 (by omega)
        rw [z, if_neg z1, if_neg z1]
        unfold Mo_railHere_n59
        rw [if_neg z1]
        exact dw_some.mpr ⟨h, fun _ _ _ _ => rfl⟩
    · rw [if_neg (fun z => c1 ((dRk_3 k5).2.1.mp z)), if_neg c1, dw_b1]
      refine dw_mono (mWrong (f := 1) h (by omega)) fun τ hτ => ?_
      have hτ : dMR bt N M μ0 L n c (.bad 1 (dtk bt N M k).2.2.2.1) τ := hτ
      rw [dtk_l hs.hk] at hτ
      unfold Mo_railHere_n22
      rw [if_neg (dMB_ne hτ.s)]
      unfold Mo_railHere_n59
      rw [if_neg (by decide)]
      exact dw_some.mpr ⟨hτ, fun P T k z => by cases z⟩
end I3
end
section
/-! the reference: rails and needs -/
def rTail (tk : Nat → dTok) (s3 : rRes) : rRes := rEnd (rCol 7 0 (rNc tk 6 1 99999 (rNc tk 5 0 999 (rNc tk 4 0 99 (rNc tk 3 1 9999 (rNc tk 2 1 9999 s3))))))
section I4
variable {bt : Nat → Nat} {N M n c k : Nat} {μ0 μ μ' : pxS} {L : Int32} {s : rRes} {P : dP} {T : Nat → Bool}
theorem upo {j j' : pxI} {i : Nat} {v : Int32} (h : j' ≠ j) : px_up μ j i v j' = μ j' := by funext x; simp [px_up, h]
/-- a write into a half under way -/
theorem dMX_w {a i : Nat} {v : Int32} (h : dMX bt N M μ0 μ) (ha : (a = 3 ∧ 11 ≤ i) ∨ a = 4 ∨ (5 ≤ a ∧ a ≤ 12 ∧ 12 ≤ i) ∨ (13 ≤ a ∧ a ≤ 15 ∧ 24 ≤ i)) : dMX bt N M μ0 (px_up μ (1, a, 0) i v) := by
  refine ⟨⟨h.KM.hn, fun t ht => by rw [upo (by simp; omega)]; exact h.KM.b t ht, by rw [upo (by simp)]; exact h.KM.l⟩, h.K, h.hp, fun j h1 h2 => by rw [upo (h2 a (by omega) (by omega))]; exact h.fr j h1 h2, fun q hq => by rw [upo (by simp)]; exact h.f0 q hq, fun x hx => ?_, fun b x h1 h2 h3 => ?_, fun b x h1 h2 h3 => ?_⟩
  · rw [up_s, if_neg (fun z => by have := z.1; simp at this; omega)]; exact h.f3 x hx
  · rw [up_s, if_neg (fun z => by have := z.1; simp at this; omega)]; exact h.f5 b x h1 h2 h3
  · rw [up_s, if_neg (fun z => by have := z.1; simp at this; omega)]; exact h.f13 b x h1 h2 h3
theorem mCol {v w : Int32} (h : dMR bt N M μ0 L n c s μ) (hc : c < 8) (hv : ∀ P T k, s = .ok P T k → v = w) : dMR bt N M μ0 L n (c + 1) (rCol c w s) (px_up μ (1, c + 5, 0) (12 + n) v) := by
  have e3 : px_up μ (1, c + 5, 0) (12 + n) v (1, 3, 0) = μ (1, 3, 0) := upo (by simp)
  have e0 : px_up μ (1, c + 5, 0) (12 + n) v (0, 0, 0) = μ (0, 0, 0) := upo (by simp)
  have e4 : px_up μ (1, c + 5, 0) (12 + n) v (1, 4, 0) = μ (1, 4, 0) := upo (by simp)
  refine ⟨dMX_w h.X (Or.inr (Or.inr (Or.inl ⟨by omega, by omega, by omega⟩))), h.n12, by rw [e3]; exact h.hn, by rw [e3]; exact h.hm, by rw [e3]; exact h.hs, by rw [e0]; exact h.ln, ?_⟩
  cases s with
  | inr zz =>
    obtain ⟨f, pl⟩ := zz
    have hs : dMB f pl μ := h.s
    exact ⟨by rw [e0]; exact hs.1, hs.2.1, by rw [e0]; exact hs.2.2⟩
  | inl zz =>
    obtain ⟨P, T, k⟩ := zz
    have hs : dMO bt N M n c P T k μ := h.s
    have hPn := hs.hn
    rw [hv P T k rfl] at e0 e3 e4 ⊢
    refine ⟨hPn, hs.hk, by rw [e0]; exact hs.f0, by rw [e0]; exact hs.ha, by rw [e0]; exact hs.pl, by rw [e0]; exact hs.kd, by rw [e0]; exact hs.v, by rw [e0]; exact hs.r, by rw [e4]; exact hs.t, by rw [e3]; exact hs.m, by rw [e3]; exact hs.st, fun a i ha hi => ?_, fun a i h1 h2 h3 => ?_, fun i hi => ?_⟩
    · rw [up_s]
      show _ = if a = c ∧ i = P.1 then w else P.2.2.2 a i
      by_cases e : a = c ∧ i = n
      · rw [if_pos ⟨by rw [e.1], by rw [e.2]⟩, if_pos ⟨e.1, by omega⟩]
      · rw [if_neg (fun z => e ⟨by simpa using z.1, by omega⟩), if_neg (fun z => e ⟨z.1, by omega⟩)]
        exact hs.a a i ha (by omega)
    · rw [upo (by simp; omega)]
      show _ = if a = c ∧ i = P.1 then w else P.2.2.2 a i
      rw [if_neg (by omega)]
      exact hs.s a i h1 h2 h3
    · rw [e3]
      show _ = if 14 = c ∧ i = P.1 then w else P.2.2.2 14 i
      rw [if_neg (by omega)]
      exact hs.e i hi
theorem dst_3 {i : Nat} : 3 ≤ dst i ∧ dst i ≤ 10 := by unfold dst; split <;> (try split) <;> (try split) <;> (try split) <;> (try split) <;> (try split) <;> (try split) <;> omega
theorem mEnd (h : dMR bt N M μ0 L n 8 s μ) (hn : n < 12) : dMR bt N M μ0 L (n + 1) 0 (rEnd s) (px_up μ (1, 3, 0) 11 (dn n + 1)) := by
  have e0 : px_up μ (1, 3, 0) 11 (dn n + 1) (0, 0, 0) = μ (0, 0, 0) := upo (by simp)
  refine ⟨dMX_w h.X (Or.inl ⟨rfl, by omega⟩), by omega, by rw [up_s, if_pos ⟨rfl, rfl⟩, dn_suc], by rw [up_s, if_neg (by omega)]; exact h.hm, by rw [up_s, if_neg (by omega)]; exact h.hs, by rw [e0]; exact h.ln, ?_⟩
  cases s with
  | inr zz =>
    obtain ⟨f, pl⟩ := zz
    have hs : dMB f pl μ := h.s
    exact ⟨by rw [e0]; exact hs.1, hs.2.1, by rw [e0]; exact hs.2.2⟩
  | inl zz =>
    obtain ⟨P, T, k⟩ := zz
    have hs : dMO bt N M n 8 P T k μ := h.s
    have hPn := hs.hn
    exact ⟨by show P.1 + 1 = n + 1; omega, hs.hk, by rw [e0]; exact hs.f0, by rw [e0]; exact hs.ha, by rw [e0]; exact hs.pl, by rw [e0]; exact hs.kd, by rw [e0]; exact hs.v, by rw [e0]; exact hs.r, by rw [upo (by simp)]; exact hs.t, by rw [up_s, if_neg (by omega)]; exact hs.m, by rw [up_s, if_neg (by omega)]; exact hs.st, fun a i ha hi => by rw [upo (by simp)]; exact hs.a a i ha (by omega), fun a i h1 h2 h3 => by rw [upo (by simp; omega)]; exact hs.s a i h1 h2 h3, fun i hi => by rw [up_s, if_neg (by have := @dst_3 i; omega)]; exact hs.e i hi⟩
theorem mNumCol {l m : Nat} {Q : pxS → Prop} {f : pxS → Option pxS} (hm : m < 1000000) (hl : l ≤ m) (h : dMR bt N M μ0 L n c s μ) (hc : c < 8) (hn : n < 12) (hf : ∀ τ, dMR bt N M μ0 L n (c + 1) (rNc (dtk bt N M) c l m s) τ → dw (f τ) Q) : dw (px_b2 (F_Mo_numeral μ (dn l) (dn m)) fun r8 σ8 => px_gd (dn (12 + n)) 24 (px_l (px_up σ8 (1, c + 5, 0) (12 + n) r8) f)) Q := by
  rw [dw_b2]
  refine dw_mono (mNum hm hl h) fun r hr => dw_gi (by omega) (by omega) ?_
  exact hf _ (mCol hr.1 hc hr.2)
theorem rGo_col {w : Int32} : rGo (rCol c w s) = rCol c w (rGo s) := by cases s <;> rfl
theorem rRl_k {tk : Nat → dTok} {P' : dP} {T' : Nat → Bool} {k' : Nat} (h : rRl tk s = .ok P' T' k') : s = .ok P' T' k' ∧ (tk k').1 = 1 := by
  cases s with
  | inr zz =>
    obtain ⟨f, pl⟩ := zz
    cases h
  | inl zz =>
    obtain ⟨P, T, k⟩ := zz
    rcases rTold_c (tk := tk) (k := k) (P := P) (T := T) trivial with ⟨c1, i, hi, e1, e2⟩ | ⟨f, hf, e2⟩
    · rw [e2] at h; cases h; exact ⟨rfl, c1⟩
    · rw [e2] at h; cases h
/-- the numbers of a rail -/
theorem mTail {f : pxS → Option pxS} {s3 : rRes} {τ : pxS} (h : dMR bt N M μ0 L n 2 s3 τ) (hn : n < 12) (hf : f = fun σ33 => px_b2 (F_Mo_numeral σ33 1 9999) fun r34 σ34 =>
  px_gd (dn (12 + n)) 24 (px_l (px_up σ34 (1, 7, 0) (12 + n) r34) fun σ36 =>
  px_b2 (F_Mo_numeral σ36 1 9999) fun r37 σ37 =>
  px_gd (dn (12 + n)) 24 (px_l (px_up σ37 (1, 8, 0) (12 + n) r37) fun σ39 =>
  px_b2 (F_Mo_numeral σ39 0 99) fun r40 σ40 =>
  px_gd (dn (12 + n)) 24 (px_l (px_up σ40 (1, 9, 0) (12 + n) r40) fun σ42 =>
  px_b2 (F_Mo_numeral σ42 0 999) fun r43 σ43 =>
  px_gd (dn (12 + n)) 24 (px_l (px_up σ43 (1, 10, 0) (12 + n) r43) fun σ45 =>
  px_b2 (F_Mo_numeral σ45 1 99999) fun r46 σ46 =>
  px_gd (dn (12 + n)) 24 (px_l (px_up σ46 (1, 11, 0) (12 + n) r46) fun σ48 =>
  px_gd (dn (12 + n)) 24 (px_l (px_up σ48 (1, 12, 0) (12 + n) 0) fun σ50 =>
  px_b1 (F_Mo_reading σ50 0) fun r51 =>
  px_b1 (F_Mo_reads σ50 0 (r51 + 1)) fun σ52 =>
  some σ52))))))) : dw (f τ) (dMR bt N M μ0 L (n + 1) 0 (rTail (dtk bt N M) s3)) := by
  unfold rTail
  rw [hf]
  refine mNumCol (l := 1) (m := 9999) (by omega) (by omega) h (by omega) (by omega) fun σ10 h10 => ?_
  refine mNumCol (l := 1) (m := 9999) (by omega) (by omega) h10 (by omega) (by omega) fun σ13 h13 => ?_
  refine mNumCol (l := 0) (m := 99) (by omega) (by omega) h13 (by omega) (by omega) fun σ16 h16 => ?_
  refine mNumCol (l := 0) (m := 999) (by omega) (by omega) h16 (by omega) (by omega) fun σ19 h19 => ?_
  refine mNumCol (l := 1) (m := 99999) (by omega) (by omega) h19 (by omega) (by omega) fun σ22 h22 => dw_gi (by omega) (by omega) ?_
  have h24 := mCol (v := 0) (w := 0) h22 (by omega) fun _ _ _ _ => rfl
  rw [dw_l]
  generalize px_up σ22 (1, 12, 0) (12 + n) 0 = σ24 at h24 ⊢
  refine dw_v (mReading (j := 0) (by omega)) ?_
  refine dw_v (mReads (j := 0) (by omega)) (dw_some.mpr ?_)
  rw [h24.hn]
  exact mEnd h24 hn
/-- behind a fault -/
def mQ (bt : Nat → Nat) (N M : Nat) (μ0 : pxS) (L : Int32) (s : rRes) (μ : pxS) : Prop := ∃ n', dMR bt N M μ0 L n' 0 s μ
theorem mRail {P : dP} (h : dMR bt N M μ0 L n 0 (.ok P T k) μ) (hk : (dtk bt N M k).1 ≠ 0) : dw (F_Mo_readRail μ) (mQ bt N M μ0 L (if P.1 = 12 then .bad 2 (dtk bt N M k).2.2.2.1 else rRail (dtk bt N M) (.ok P T (k + 1)))) := by
  have hs : dMO bt N M n 0 P T k μ := h.s
  have hn12 := h.n12
  have hPn := hs.hn
  unfold F_Mo_readRail
  refine dw_v (mReading (j := 0) (by omega)) ?_
  rw [h.hn, show (12 : Int32) + dn n = dn (12 + n) from dn_add 12 n]
  by_cases c : n = 12
  · rw [if_pos (by rw [c]; decide), if_pos (by omega), dw_b1]
    refine dw_mono (mWrong (f := 2) h (by omega)) fun τ hτ => ?_
    have hτ : dMR bt N M μ0 L n 0 (.bad 2 (dtk bt N M k).2.2.2.1) τ := hτ
    unfold Mo_readRail_n20
    rw [dw_b1]
    refine dw_mono (mGo hτ fun P T k z => by cases z) fun τ2 h2 => ?_
    have h2 : dMR bt N M μ0 L n 0 (.bad 2 (dtk bt N M k).2.2.2.1) τ2 := h2
    rw [if_neg (dMB_ne h2.s)]
    exact dw_some.mpr ⟨n, h2⟩
  · rw [if_neg (by rw [show (24 : Int32) = dn 24 from rfl, dn_inj (by omega) (by omega)]; omega), if_neg (by omega)]
    unfold Mo_readRail_n20
    rw [dw_b1]
    refine dw_mono (mGo h fun P' T' k' z => by cases z; exact hk) fun τ h1 => ?_
    have h1 : dMR bt N M μ0 L n 0 (.ok P T (k + 1)) τ := h1
    have hs1 : dMO bt N M n 0 P T (k + 1) τ := h1.s
    have k5 := h1.X.K.k5 (k + 1) hs1.hk
    have etk := dtk_l (bt := bt) (N := N) hs1.hk
    rw [etk] at k5
    rw [if_pos hs1.f0, hs1.kd]
    have b72 : ∀ {f pl : Nat} {τ' : pxS} {v : Int32}, dMR bt N M μ0 L n 0 (.bad f pl) τ' → dw (Mo_readRail_n72 τ' v) (mQ bt N M μ0 L (.bad f pl)) := fun h => by
      unfold Mo_readRail_n72
      rw [if_neg (dMB_ne h.s)]
      exact dw_some.mpr ⟨n, h⟩
    have badr : ∀ f pl, rFr (dtk bt N M) (.ok P T (k + 1)) = .bad f pl → rRail (dtk bt N M) (.ok P T (k + 1)) = .bad f pl := fun f pl z => by
      unfold rRail
      rw [z]
      rfl
    by_cases c1 : (dTs' bt N (k + 1)).1 = 1
    · rw [if_pos ((dRk_3 k5).2.1.mpr c1)]
      refine dw_v (mReading (j := 0) (by omega)) ?_
      rw [h1.hn, hs1.v (Or.inl c1), dw_b1]
      refine dw_mono (mFind h1) fun r hr => ?_
      rw [hr]
      by_cases z : dfn (P.2.2.2 0) P.1 (dTs' bt N (k + 1)).2.1 = -1
      · rw [z, if_pos rfl]
        have efr : rFr (dtk bt N M) (.ok P T (k + 1)) = .ok P T (k + 2) := by rw [rFr_ok, etk, if_pos c1, if_pos z]
        have eV : rV (dtk bt N M) (.ok P T (k + 1)) = (dTs' bt N (k + 1)).2.1 := by show (dtk bt N M (k + 1)).2.1 = _; rw [etk]
        have key : rRail (dtk bt N M) (.ok P T (k + 1)) = rTail (dtk bt N M) (rCol 1 (rPv (dtk bt N M) (.ok (P.col 0 (dTs' bt N (k + 1)).2.1) T (k + 2))) (rPa (dtk bt N M) (.ok (P.col 0 (dTs' bt N (k + 1)).2.1) T (k + 2)))) := by
          unfold rRail
          rw [efr, eV]
          rfl
        unfold Mo_readRail_n72
        rw [if_pos hs1.f0]
        refine dw_gi (by omega) (by omega) ?_
        rw [dn_nat (show 12 + n < 2147483648 by omega), hs1.v (Or.inl c1), dw_l, dw_b1]
        have h2 := mCol (v := (dTs' bt N (k + 1)).2.1) (w := (dTs' bt N (k + 1)).2.1) h1 (by omega) fun _ _ _ _ => rfl
        refine dw_mono (mTok (P := P.col 0 (dTs' bt N (k + 1)).2.1) h2 (by rw [etk, c1]; omega)) fun τ3 h3 => ?_
        generalize (dTs' bt N (k + 1)).2.1 = nm at key h2 h3
        rw [key]
        generalize hP2 : P.col 0 nm = P2 at h3
        have hs3 : dMO bt N M n 1 P2 T (k + 2) τ3 := h3.s
        have k53 := h3.X.K.k5 (k + 2) hs3.hk
        have etk3 := dtk_l (bt := bt) (N := N) hs3.hk
        rw [etk3] at k53
        have n114 : rIs (dtk bt N M) (.ok P2 T (k + 2)) = false → dw (Mo_readRail_n114 τ3 (dn (12 + n))) (mQ bt N M μ0 L (rTail (dtk bt N M) (rCol 1 (rPv (dtk bt N M) (.ok P2 T (k + 2))) (rPa (dtk bt N M) (.ok P2 T (k + 2)))))) := fun z => by
          unfold rPv rPa
          rw [z, if_neg (by decide), if_neg (by decide)]
          unfold Mo_readRail_n114
          rw [dw_b2]
          refine dw_mono (mRl h3) fun r8 ⟨q1, q2⟩ => dw_gi (by omega) (by omega) ?_
          rw [dn_nat (show 12 + n < 2147483648 by omega), dw_l]
          have h4 := mCol q1 (by omega) q2
          generalize px_up r8.2 (1, 6, 0) (12 + n) r8.1 = τ4 at h4 ⊢
          rw [dw_b1]
          refine dw_mono (mGo h4 fun P' T' k' e => ?_) fun τ5 h5 => ?_
          · obtain ⟨P9, e1, _⟩ := rCol_inv e
            rw [(rRl_k e1).2]; omega
          · rw [rGo_col] at h5
            exact dw_mono (mTail h5 (by omega) rfl) fun _ h => ⟨n + 1, h⟩
        rw [hs3.kd]
        by_cases c2 : (dTs' bt N (k + 2)).1 = 2
        · rw [if_pos ((dRk_3 k53).2.2.1.mpr c2), hs3.v (Or.inr c2)]
          by_cases c3 : (dTs' bt N (k + 2)).2.1 = 13
          · rw [if_pos c3]
            have eIs : rIs (dtk bt N M) (.ok P2 T (k + 2)) = true := by unfold rIs; simp [etk3, c2, c3]
            unfold rPv rPa
            rw [eIs, if_pos rfl, if_pos rfl]
            refine dw_gi (by omega) (by omega) ?_
            rw [dw_l]
            have h4 := mCol (v := -2) (w := -2) h3 (by omega) fun _ _ _ _ => rfl
            generalize px_up τ3 (1, 6, 0) (12 + n) (-2) = τ4 at h4 ⊢
            rw [dw_b1]
            refine dw_mono (mGo h4 fun P' T' k' e => ?_) fun τ5 h5 => ?_
            · cases e
              rw [etk3, c2]; omega
            · rw [rGo_col] at h5
              exact dw_mono (mTail h5 (by omega) rfl) fun _ h => ⟨n + 1, h⟩
          · rw [if_neg c3]
            exact n114 (by unfold rIs; simp [etk3, c3])
        · rw [if_neg (fun z => c2 ((dRk_3 k53).2.2.1.mp z))]
          exact n114 (by unfold rIs; simp [etk3, c2])
      · rw [if_neg z, dw_b1]
        refine dw_mono (mWrong (f := 3) h1 (by omega)) fun τ2 h2 => ?_
        have h2 : dMR bt N M μ0 L n 0 (.bad 3 (dtk bt N M (k + 1)).2.2.2.1) τ2 := h2
        rw [badr 3 (dtk bt N M (k + 1)).2.2.2.1 (by rw [rFr_ok, etk, if_pos c1, if_neg z])]
        exact b72 h2
    · rw [if_neg (fun z => c1 ((dRk_3 k5).2.1.mp z)), dw_b1]
      refine dw_mono (mWrong (f := 1) h1 (by omega)) fun τ2 h2 => ?_
      have h2 : dMR bt N M μ0 L n 0 (.bad 1 (dtk bt N M (k + 1)).2.2.2.1) τ2 := h2
      rw [badr 1 (dtk bt N M (k + 1)).2.2.2.1 (by rw [rFr_ok, etk, if_neg c1])]
      exact b72 h2
end I4
end
section
/-! the reference: needs, steps, settings -/
section I5
variable {bt : Nat → Nat} {N M n c k : Nat} {μ0 μ μ' : pxS} {L : Int32} {s : rRes} {P : dP} {T : Nat → Bool}
theorem mNd79b {f pl : Nat} {v w : Int32} (h : dMR bt N M μ0 L n 0 (.bad f pl) μ) : dw (Mo_readNeeds_n79 μ v w) (mQ bt N M μ0 L (.bad f pl)) := by
  unfold Mo_readNeeds_n79
  rw [if_neg (dMB_ne h.s)]
  exact dw_some.mpr ⟨n, h⟩
theorem mNd50b {f pl : Nat} {v w : Int32} (h : dMR bt N M μ0 L n 0 (.bad f pl) μ) : dw (Mo_readNeeds_n50 μ v w) (mQ bt N M μ0 L (.bad f pl)) := by
  unfold Mo_readNeeds_n50
  rw [if_neg (dMB_ne h.s)]
  exact mNd79b h
theorem mNd79 {i : Nat} {v : Int32} (h : dMR bt N M μ0 L n 0 (.ok P T k) μ) (hi : i < n) (hm : P.2.1 < 20) (hk : (dtk bt N M k).1 ≠ 0) : dw (Mo_readNeeds_n79 μ (dn i) v) (mQ bt N M μ0 L (.ok (P.nd (dn i) v) T (k + 1))) := by
  have hs : dMO bt N M n 0 P T k μ := h.s
  have hn := h.n12
  have hPn := hs.hn
  have hnat : (dn i).toNatClampNeg = i := dn_nat (by omega)
  unfold Mo_readNeeds_n79
  rw [if_pos hs.f0, show (12 : Int32) + dn i = dn (12 + i) from dn_add 12 i]
  refine dw_gi (by omega) (by omega) (dw_gi (by omega) (by omega) ?_)
  rw [dn_nat (show 12 + i < 2147483648 by omega), dw_l, hs.a 7 i (by omega) (Or.inl hi)]
  generalize hτ : px_up μ (1, 12, 0) (12 + i) (P.2.2.2 7 i ||| (1 <<< (v &&& 31))) = τ
  have e3 : ∀ j : pxI, j ≠ (1, 12, 0) → τ j = μ j := fun j hj => by rw [← hτ]; exact upo hj
  -- needs laid, not yet counted
  let P1 : dP := (P.1, P.2.1, P.2.2.1, (P.nd (dn i) v).2.2.2)
  have hX1 : dMX bt N M μ0 τ := by rw [← hτ]; exact dMX_w h.X (Or.inr (Or.inr (Or.inl ⟨by omega, by omega, by omega⟩)))
  have key : ∀ a x, (P.nd (dn i) v).2.2.2 a x = if a = 7 ∧ x = i then P.2.2.2 7 i ||| (1 <<< (v &&& 31)) else P.2.2.2 a x := fun a x => by
    unfold dP.nd; dsimp only; rw [hnat]
  have h1 : dMR bt N M μ0 L n 0 (.ok P1 T k) τ := by
    refine ⟨hX1, hn, by rw [e3 _ (by simp)]; exact h.hn, by rw [e3 _ (by simp)]; exact h.hm, by rw [e3 _ (by simp)]; exact h.hs, by rw [e3 _ (by simp)]; exact h.ln, ?_⟩
    refine ⟨hPn, hs.hk, by rw [e3 _ (by simp)]; exact hs.f0, by rw [e3 _ (by simp)]; exact hs.ha, by rw [e3 _ (by simp)]; exact hs.pl, by rw [e3 _ (by simp)]; exact hs.kd, by rw [e3 _ (by simp)]; exact hs.v, by rw [e3 _ (by simp)]; exact hs.r, by rw [e3 _ (by simp)]; exact hs.t, by rw [e3 _ (by simp)]; exact hs.m, by rw [e3 _ (by simp)]; exact hs.st, fun a x ha hx => ?_, fun a x h1 h2 h3 => ?_, fun x hx => ?_⟩
    · show _ = (P.nd (dn i) v).2.2.2 a x
      rw [key, ← hτ, up_s]
      by_cases e : a = 7 ∧ x = i
      · rw [if_pos e, if_pos ⟨by rw [e.1], by rw [e.2]⟩]
      · rw [if_neg e, if_neg (fun z => e ⟨by simpa using z.1, by omega⟩)]; exact hs.a a x ha hx
    · show _ = (P.nd (dn i) v).2.2.2 a x
      rw [key, if_neg (by omega), e3 _ (by simp; omega)]
      exact hs.s a x h1 h2 h3
    · show _ = (P.nd (dn i) v).2.2.2 14 x
      rw [key, if_neg (by omega), e3 _ (by simp)]
      exact hs.e x hx
  rw [dw_b1]
  refine dw_mono (mTok h1 hk) fun τ2 h2 => ?_
  have hs2 : dMO bt N M n 0 P1 T (k + 1) τ2 := h2.s
  refine dw_v (mReading (j := 1) (by omega)) (dw_v (mReads (j := 1) (by omega)) (dw_some.mpr ⟨n, ?_⟩))
  rw [hs2.m.1, dn_suc]
  have e4 : ∀ j : pxI, j ≠ (1, 3, 0) → px_up τ2 (1, 3, 0) (11 + 1) (dn (P1.2.1 + 1)) j = τ2 j := fun j hj => upo hj
  have e5 : ∀ x, x ≠ 12 → px_up τ2 (1, 3, 0) (11 + 1) (dn (P1.2.1 + 1)) (1, 3, 0) x = τ2 (1, 3, 0) x := fun x hx => by rw [up_s, if_neg (fun z => hx z.2)]
  have e6 : px_up τ2 (1, 3, 0) (11 + 1) (dn (P1.2.1 + 1)) (1, 3, 0) 12 = dn (P.2.1 + 1) := by rw [up_s, if_pos ⟨rfl, rfl⟩]
  refine ⟨dMX_w h2.X (Or.inl ⟨rfl, by omega⟩), hn, by rw [e5 _ (by omega)]; exact h2.hn, ⟨P.2.1 + 1, by omega, e6⟩, by rw [e5 _ (by omega)]; exact h2.hs, by rw [e4 _ (by simp)]; exact h2.ln, ?_⟩
  exact ⟨hPn, hs2.hk, by rw [e4 _ (by simp)]; exact hs2.f0, by rw [e4 _ (by simp)]; exact hs2.ha, by rw [e4 _ (by simp)]; exact hs2.pl, by rw [e4 _ (by simp)]; exact hs2.kd, by rw [e4 _ (by simp)]; exact hs2.v, by rw [e4 _ (by simp)]; exact hs2.r, by rw [e4 _ (by simp)]; exact hs2.t, ⟨e6, by show P.2.1 + 1 ≤ 20; omega⟩, by rw [e5 _ (by omega)]; exact hs2.st, fun a x ha hx => by rw [e4 _ (by simp)]; exact hs2.a a x ha hx, fun a x h1 h2 h3 => by rw [e4 _ (by simp; omega)]; exact hs2.s a x h1 h2 h3, fun x hx => by rw [e5 _ (by have := @dst_3 x; omega)]; exact hs2.e x hx⟩
theorem mNeed {P : dP} (h : dMR bt N M μ0 L n 0 (.ok P T k) μ) (hk : (dtk bt N M k).1 ≠ 0) : dw (F_Mo_readNeeds μ) (mQ bt N M μ0 L (if P.2.1 = 20 then .bad 2 (dtk bt N M k).2.2.2.1 else rNeed (dtk bt N M) (.ok P T (k + 1)))) := by
  have hs : dMO bt N M n 0 P T k μ := h.s
  have hn12 := h.n12
  have hPn := hs.hn
  have hm20 := hs.m.2
  unfold F_Mo_readNeeds
  refine dw_v (mReading (j := 1) (by omega)) ?_
  rw [hs.m.1]
  by_cases c : P.2.1 = 20
  · rw [if_pos (by rw [c]; rfl), if_pos c, dw_b1]
    refine dw_mono (mWrong (f := 2) h (by omega)) fun τ hτ => ?_
    have hτ : dMR bt N M μ0 L n 0 (.bad 2 (dtk bt N M k).2.2.2.1) τ := hτ
    unfold Mo_readNeeds_n15
    rw [dw_b1]
    refine dw_mono (mGo hτ fun P T k z => by cases z) fun τ1 h1 => ?_
    rw [dw_b2]
    refine dw_mono (mRl h1) fun r3 ⟨h3, _⟩ => ?_
    rw [dw_b1]
    refine dw_mono (mGo h3 fun P T k z => by cases z) fun τ4 h4 => ?_
    rw [dw_b2]
    refine dw_mono (mRl h4) fun r5 ⟨h5, _⟩ => ?_
    have h5 : dMR bt N M μ0 L n 0 (.bad 2 (dtk bt N M k).2.2.2.1) r5.2 := h5
    rw [if_neg (dMB_ne h5.s)]
    exact mNd50b h5
  · rw [if_neg (by rw [show (20 : Int32) = dn 20 from rfl, dn_inj (by omega) (by omega)]; exact c), if_neg c]
    unfold Mo_readNeeds_n15
    rw [dw_b1]
    refine dw_mono (mGo h fun P' T' k' z => by cases z; exact hk) fun τ1 h1 => ?_
    have h1 : dMR bt N M μ0 L n 0 (.ok P T (k + 1)) τ1 := h1
    rw [dw_b2]
    refine dw_mono (mRl h1) fun r3 ⟨h3, e3⟩ => ?_
    rw [dw_b1]
    refine dw_mono (mGo h3 fun P' T' k' z => by rw [(rRl_k z).2]; omega) fun τ4 h4 => ?_
    rw [dw_b2]
    refine dw_mono (mRl h4) fun r5 ⟨h5, e5⟩ => ?_
    unfold rNeed
    dsimp only
    rcases rTold_c (tk := dtk bt N M) (k := k + 1) (P := P) (T := T) trivial with ⟨c1, i, hi, e1, e2⟩ | ⟨f, hf, e2⟩
    · rw [e2] at h3 e3 h4 h5 e5 ⊢
      have q3 : r3.1 = dn i := (e3 P T (k + 1) rfl).trans e1
      have e1 : rF (dtk bt N M) (.ok P T (k + 1)) = dn i := e1
      rw [e1, q3]
      show dw _ (mQ bt N M μ0 L (rNd (dtk bt N M) (dn i) (rF (dtk bt N M) (.ok P T (k + 2))) (rRl (dtk bt N M) (.ok P T (k + 2)))))
      rcases rTold_c (tk := dtk bt N M) (k := k + 2) (P := P) (T := T) trivial with ⟨c2, j, hj, f1, f2⟩ | ⟨f, hf, f2⟩
      · have h5' : dMR bt N M μ0 L n 0 (.ok P T (k + 2)) r5.2 := by
          have := h5
          rw [show rGo (.ok P T (k + 1)) = .ok P T (k + 2) from rfl, f2] at this
          exact this
        have q5 : r5.1 = dn j := (e5 P T (k + 2) f2).trans f1
        have f1 : rF (dtk bt N M) (.ok P T (k + 2)) = dn j := f1
        have hs5 : dMO bt N M n 0 P T (k + 2) r5.2 := h5'.s
        rw [f2, f1, q5, if_pos hs5.f0]
        show dw _ (mQ bt N M μ0 L (if dn i = dn j then .bad 2 (dtk bt N M (k + 2)).2.2.2.1 else if ((P.2.2.2 7 (dn i).toNatClampNeg) >>> (dn j &&& 31)) &&& 1 = 1 then .bad 3 (dtk bt N M (k + 2)).2.2.2.1 else .ok (P.nd (dn i) (dn j)) T (k + 3)))
        by_cases d1 : dn i = dn j
        · rw [if_pos d1, if_pos d1, dw_b1]
          exact dw_mono (mWrong (f := 2) h5' (by omega)) fun τ6 h6 => mNd50b h6
        · rw [if_neg d1, if_neg d1, dn_nat (show i < 2147483648 by omega)]
          unfold Mo_readNeeds_n50
          rw [if_pos hs5.f0, show (12 : Int32) + dn i = dn (12 + i) from dn_add 12 i]
          refine dw_gi (by omega) (by omega) ?_
          rw [dn_nat (show 12 + i < 2147483648 by omega), hs5.a 7 i (by omega) (Or.inl (by omega))]
          by_cases d2 : ((P.2.2.2 7 i) >>> (dn j &&& 31)) &&& 1 = 1
          · rw [if_pos d2, if_pos d2, dw_b1]
            exact dw_mono (mWrong (f := 3) h5' (by omega)) fun τ6 h6 => mNd79b h6
          · rw [if_neg d2, if_neg d2]
            exact mNd79 h5' (by omega) (by omega) (by rw [c2]; omega)
      · have h5' : dMR bt N M μ0 L n 0 (.bad f (dtk bt N M (k + 2)).2.2.2.1) r5.2 := by
          have := h5
          rw [show rGo (.ok P T (k + 1)) = .ok P T (k + 2) from rfl, f2] at this
          exact this
        rw [f2, if_neg (dMB_ne h5'.s)]
        exact mNd50b h5'
    · rw [e2] at h5 ⊢
      have h5' : dMR bt N M μ0 L n 0 (.bad f (dtk bt N M (k + 1)).2.2.2.1) r5.2 := h5
      rw [if_neg (dMB_ne h5'.s)]
      exact mNd50b h5'
/-- a step laid -/
theorem mSp {st x : Nat} {y z : Int32} (h : dMR bt N M μ0 L n 0 (.ok P T k) μ) (hst : P.2.2.1 = st) (hs24 : st < 24) (hx : 2 ≤ x) : dw (px_gd (dn (24 + st)) 48 (px_l (px_up μ (1, 13, 0) (dn (24 + st)).toNatClampNeg (dn x - 2)) fun σ14 =>
  px_gd (dn (24 + st)) 48 (px_l (px_up σ14 (1, 14, 0) (dn (24 + st)).toNatClampNeg y) fun σ16 =>
  px_gd (dn (24 + st)) 48 (px_l (px_up σ16 (1, 15, 0) (dn (24 + st)).toNatClampNeg z) fun σ18 =>
  px_b1 (F_Mo_reading σ18 2) fun r19 =>
  px_b1 (F_Mo_reads σ18 2 (r19 + 1)) fun σ20 =>
  some σ20)))) (mQ bt N M μ0 L (.ok (P.sp (dn (x - 2)) y z) T k)) := by
  have hs : dMO bt N M n 0 P T k μ := h.s
  subst hst
  rw [show (2 : Int32) = dn 2 from rfl, dn_sub hx, dn_nat (show 24 + P.2.2.1 < 2147483648 by omega)]
  refine dw_gi (by omega) (by omega) (dw_l.mpr (dw_gi (by omega) (by omega) (dw_l.mpr (dw_gi (by omega) (by omega) (dw_l.mpr ?_)))))
  refine dw_v (mReading (j := 2) (by omega)) (dw_v (mReads (j := 2) (by omega)) (dw_some.mpr ⟨n, ?_⟩))
  generalize hτ : px_up (px_up (px_up μ (1, 13, 0) (24 + P.2.2.1) (dn (x - 2))) (1, 14, 0) (24 + P.2.2.1) y) (1, 15, 0) (24 + P.2.2.1) z = τ
  have e0 : ∀ j : pxI, j ≠ (1, 13, 0) → j ≠ (1, 14, 0) → j ≠ (1, 15, 0) → τ j = μ j := fun j h1 h2 h3 => by rw [← hτ, upo h3, upo h2, upo h1]
  have e1 : ∀ a i, 11 ≤ a → a < 14 → i ≤ P.2.2.1 → τ (1, a + 2, 0) (24 + i) = if a = 11 ∧ i = P.2.2.1 then dn (x - 2) else if a = 12 ∧ i = P.2.2.1 then y else if a = 13 ∧ i = P.2.2.1 then z else μ (1, a + 2, 0) (24 + i) := fun a i h1 h2 h3 => by
    rw [← hτ, up_s, up_s, up_s]
    rcases (show a = 11 ∨ a = 12 ∨ a = 13 by omega) with e | e | e <;> subst e <;> simp
  have hX : dMX bt N M μ0 τ := by rw [← hτ]; exact dMX_w (dMX_w (dMX_w h.X (by omega)) (by omega)) (by omega)
  rw [e0 _ (by simp) (by simp) (by simp), hs.st.1, dn_suc]
  have e4 : ∀ j : pxI, j ≠ (1, 3, 0) → px_up τ (1, 3, 0) (11 + 2) (dn (P.2.2.1 + 1)) j = τ j := fun j hj => upo hj
  have e5 : ∀ i, i ≠ 13 → px_up τ (1, 3, 0) (11 + 2) (dn (P.2.2.1 + 1)) (1, 3, 0) i = μ (1, 3, 0) i := fun i hi => by rw [up_s, if_neg (fun z => hi z.2), e0 _ (by simp) (by simp) (by simp)]
  have e6 : px_up τ (1, 3, 0) (11 + 2) (dn (P.2.2.1 + 1)) (1, 3, 0) 13 = dn (P.2.2.1 + 1) := by rw [up_s, if_pos ⟨rfl, rfl⟩]
  have e7 : ∀ j : pxI, j ≠ (1, 3, 0) → j ≠ (1, 13, 0) → j ≠ (1, 14, 0) → j ≠ (1, 15, 0) → px_up τ (1, 3, 0) (11 + 2) (dn (P.2.2.1 + 1)) j = μ j := fun j h0 h1 h2 h3 => (e4 j h0).trans (e0 j h1 h2 h3)
  refine ⟨dMX_w hX (Or.inl ⟨rfl, by omega⟩), h.n12, by rw [e5 _ (by omega)]; exact h.hn, by rw [e5 _ (by omega)]; exact h.hm, ⟨P.2.2.1 + 1, by omega, e6⟩, by rw [e7 _ (by simp) (by simp) (by simp) (by simp)]; exact h.ln, ?_⟩
  have e8 : px_up τ (1, 3, 0) (11 + 2) (dn (P.2.2.1 + 1)) (0, 0, 0) = μ (0, 0, 0) := e7 _ (by simp) (by simp) (by simp) (by simp)
  refine ⟨hs.hn, hs.hk, by rw [e8]; exact hs.f0, by rw [e8]; exact hs.ha, by rw [e8]; exact hs.pl, by rw [e8]; exact hs.kd, by rw [e8]; exact hs.v, by rw [e8]; exact hs.r, by rw [e7 _ (by simp) (by simp) (by simp) (by simp)]; exact hs.t, by rw [e5 _ (by omega)]; exact hs.m, ⟨e6, by show P.2.2.1 + 1 ≤ 24; omega⟩, fun a i ha hi => ?_, fun a i h1 h2 h3 => ?_, fun i hi => ?_⟩
  · rw [e7 _ (by simp) (by simp; omega) (by simp; omega) (by simp; omega)]
    show _ = if a = 11 ∧ i = P.2.2.1 then dn (x - 2) else if a = 12 ∧ i = P.2.2.1 then y else if a = 13 ∧ i = P.2.2.1 then z else P.2.2.2 a i
    rw [if_neg (by omega), if_neg (by omega), if_neg (by omega)]
    exact hs.a a i ha hi
  · have h4 : i < P.2.2.1 + 1 := h3
    rw [e4 _ (by simp; omega), e1 a i h1 h2 (by omega)]
    show _ = if a = 11 ∧ i = P.2.2.1 then dn (x - 2) else if a = 12 ∧ i = P.2.2.1 then y else if a = 13 ∧ i = P.2.2.1 then z else P.2.2.2 a i
    by_cases c0 : i = P.2.2.1
    · rcases (show a = 11 ∨ a = 12 ∨ a = 13 by omega) with c1 | c1 | c1
      · rw [if_pos ⟨c1, c0⟩, if_pos ⟨c1, c0⟩]
      · rw [if_neg (by omega), if_pos ⟨c1, c0⟩, if_neg (by omega), if_pos ⟨c1, c0⟩]
      · rw [if_neg (by omega), if_neg (by omega), if_pos ⟨c1, c0⟩, if_neg (by omega), if_neg (by omega), if_pos ⟨c1, c0⟩]
    · rw [if_neg (by omega), if_neg (by omega), if_neg (by omega), if_neg (by omega), if_neg (by omega), if_neg (by omega)]
      exact hs.s a i h1 h2 (by omega)
  · rw [e5 _ (by have := @dst_3 i; omega)]
    show _ = if 14 = 11 ∧ i = P.2.2.1 then dn (x - 2) else if 14 = 12 ∧ i = P.2.2.1 then y else if 14 = 13 ∧ i = P.2.2.1 then z else P.2.2.2 14 i
    rw [if_neg (by omega), if_neg (by omega), if_neg (by omega)]
    exact hs.e i hi
theorem mSp51 {x st : Nat} {y y' : Int32} (h : dMR bt N M μ0 L n 0 s μ) (hx : 2 ≤ x) (hv : ∀ P T k, s = .ok P T k → P.2.2.1 = st ∧ st < 24 ∧ y = y') : dw (Mo_readStep_n51 μ (dn x) (dn (24 + st)) y) (mQ bt N M μ0 L (rSp (dn (x - 2)) y' (rV (dtk bt N M) s) (rNm (dtk bt N M) 1 99 s))) := by
  unfold Mo_readStep_n51
  rw [dw_b2]
  refine dw_mono (mNum (l := 1) (m := 99) (by omega) (by omega) h) fun r ⟨g1, g2⟩ => ?_
  cases e : rNm (dtk bt N M) 1 99 s with
  | inr zz =>
    obtain ⟨f, pl⟩ := zz
    rw [e] at g1
    rw [if_neg (dMB_ne g1.s)]
    exact dw_some.mpr ⟨n, g1⟩
  | inl zz =>
    obtain ⟨P1, T1, k1⟩ := zz
    have q := g2 P1 T1 k1 e
    rw [e] at g1
    have hs : dMO bt N M n 0 P1 T1 k1 r.2 := g1.s
    cases s with
    | inr zz =>
      obtain ⟨f, pl⟩ := zz
      cases e
    | inl zz =>
      obtain ⟨P0, T0, k0⟩ := zz
      obtain ⟨rfl, rfl, rfl⟩ := rNm_P e
      obtain ⟨v1, v2, rfl⟩ := hv P1 T1 k0 rfl
      rw [if_pos hs.f0, q]
      exact mSp g1 v1 v2 hx
theorem mStep {x : Nat} {P : dP} (h : dMR bt N M μ0 L n 0 (.ok P T k) μ) (hk : (dtk bt N M k).1 ≠ 0) (hx : 2 ≤ x) (hx6 : x < 6) : dw (F_Mo_readStep μ (dn x)) (mQ bt N M μ0 L (if P.2.2.1 = 24 then .bad 2 (dtk bt N M k).2.2.2.1 else rStep (dtk bt N M) (x - 2) (.ok P T (k + 1)))) := by
  have hs : dMO bt N M n 0 P T k μ := h.s
  have hst := hs.st.2
  have eqx : ∀ w : Nat, w < 100 → (dn x = dn w ↔ x = w) := fun w hw => dn_inj (by omega) (by omega)
  have b41 : ∀ {f pl : Nat} {τ : pxS} {v2 v3 : Int32}, dMR bt N M μ0 L n 0 (.bad f pl) τ → dw (Mo_readStep_n41 τ (dn x) v2 v3) (mQ bt N M μ0 L (.bad f pl)) := fun {f pl τ v2 v3} h => by
    have b51 : dw (Mo_readStep_n51 τ (dn x) v2 v3) (mQ bt N M μ0 L (.bad f pl)) := by
      unfold Mo_readStep_n51
      rw [dw_b2]
      refine dw_mono (mNum (l := 1) (m := 99) (by omega) (by omega) h) fun r ⟨g1, g2⟩ => ?_
      have g1 : dMR bt N M μ0 L n 0 (.bad f pl) r.2 := g1
      rw [if_neg (dMB_ne g1.s)]
      exact dw_some.mpr ⟨n, g1⟩
    unfold Mo_readStep_n41
    by_cases c1 : dn x = 4
    · rw [if_pos c1]; exact b51
    · rw [if_neg c1]
      by_cases c2 : dn x = 5
      · rw [if_pos c2]; exact b51
      · rw [if_neg c2, if_neg (dMB_ne h.s)]; exact dw_some.mpr ⟨n, h⟩
  unfold F_Mo_readStep
  refine dw_v (mReading (j := 2) (by omega)) ?_
  rw [hs.st.1, show (24 : Int32) + dn P.2.2.1 = dn (24 + P.2.2.1) from dn_add 24 P.2.2.1]
  by_cases c : P.2.2.1 = 24
  · rw [if_pos (by rw [c]; rfl), if_pos c, dw_b1]
    refine dw_mono (mWrong (f := 2) h (by omega)) fun τ hτ => ?_
    have hτ : dMR bt N M μ0 L n 0 (.bad 2 (dtk bt N M k).2.2.2.1) τ := hτ
    unfold Mo_readStep_n20
    rw [dw_b1]
    refine dw_mono (mGo hτ fun P T k z => by cases z) fun τ1 h1 => ?_
    have h1 : dMR bt N M μ0 L n 0 (.bad 2 (dtk bt N M k).2.2.2.1) τ1 := h1
    by_cases c1 : dn x = 4
    · rw [if_pos c1]; exact b41 h1
    · rw [if_neg c1, dw_b2]
      refine dw_mono (mRl h1) fun r3 ⟨h3, _⟩ => ?_
      rw [dw_b1]
      exact dw_mono (mGo h3 fun P T k z => by cases z) fun τ4 h4 => b41 h4
  · rw [if_neg (by rw [show (48 : Int32) = dn 48 from rfl, dn_inj (by omega) (by omega)]; omega), if_neg c]
    unfold Mo_readStep_n20
    rw [dw_b1]
    refine dw_mono (mGo h fun P' T' k' z => by cases z; exact hk) fun τ1 h1 => ?_
    have h1 : dMR bt N M μ0 L n 0 (.ok P T (k + 1)) τ1 := h1
    unfold rStep
    by_cases c4 : x = 4
    · subst c4
      rw [if_pos (show dn 4 = 4 from rfl), if_pos (show 4 - 2 = 2 from rfl)]
      unfold Mo_readStep_n41
      rw [if_pos (show dn 4 = 4 from rfl)]
      exact mSp51 (x := 4) h1 (by omega) fun P' T' k' z => by cases z; exact ⟨rfl, by omega, rfl⟩
    · rw [if_neg (show ¬ dn x = 4 from fun z => c4 ((eqx 4 (by omega)).mp z)), if_neg (show ¬ x - 2 = 2 by omega), dw_b2]
      refine dw_mono (mRl h1) fun r3 ⟨h3, e3⟩ => ?_
      rw [dw_b1]
      refine dw_mono (mGo h3 fun P' T' k' z => by rw [(rRl_k z).2]; omega) fun τ4 h4 => ?_
      unfold Mo_readStep_n41
      rw [if_neg (show ¬ dn x = 4 from fun z => c4 ((eqx 4 (by omega)).mp z))]
      dsimp only
      have key : ∀ P' T' k', rGo (rRl (dtk bt N M) (.ok P T (k + 1))) = .ok P' T' k' → P'.2.2.1 = P.2.2.1 ∧ P.2.2.1 < 24 ∧ r3.1 = rF (dtk bt N M) (.ok P T (k + 1)) := fun P' T' k' z => by
        refine ⟨by rw [(rTo_P z).1], by omega, ?_⟩
        cases e : rRl (dtk bt N M) (.ok P T (k + 1)) with
        | inr zz =>
          obtain ⟨f, pl⟩ := zz
          rw [e] at z; cases z
        | inl zz =>
          obtain ⟨P9, T9, k9⟩ := zz
          exact e3 P9 T9 k9 e
      by_cases c5 : x = 5
      · subst c5
        rw [if_pos (show dn 5 = 5 from rfl), if_pos (show 5 - 2 = 3 from rfl)]
        exact mSp51 (x := 5) h4 (by omega) key
      · rw [if_neg (show ¬ dn x = 5 from fun z => c5 ((eqx 5 (by omega)).mp z)), if_neg (show ¬ x - 2 = 3 by omega)]
        cases e : rGo (rRl (dtk bt N M) (.ok P T (k + 1))) with
        | inr zz =>
          obtain ⟨f, pl⟩ := zz
          rw [e] at h4
          rw [if_neg (dMB_ne h4.s)]
          exact dw_some.mpr ⟨n, h4⟩
        | inl zz =>
          obtain ⟨P1, T1, k1⟩ := zz
          obtain ⟨w1, w2, w3⟩ := key P1 T1 k1 e
          rw [e] at h4
          have hs4 : dMO bt N M n 0 P1 T1 k1 τ4 := h4.s
          rw [if_pos hs4.f0, w3]
          exact mSp h4 w1 w2 hx
end I5
end
