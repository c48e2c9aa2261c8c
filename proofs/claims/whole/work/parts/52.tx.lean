section
/-! the reference: settings, lines, a text -/
section I6
variable {bt : Nat → Nat} {N M n c k : Nat} {μ0 μ μ' : pxS} {L : Int32} {s : rRes} {P : dP} {T : Nat → Bool}
theorem dst_in {i j : Nat} (hi : i < 8) (hj : j < 8) (h : dst i = dst j) : i = j := by
  rcases (show i = 0 ∨ i = 1 ∨ i = 2 ∨ i = 3 ∨ i = 4 ∨ i = 5 ∨ i = 6 ∨ i = 7 by omega) with e | e | e | e | e | e | e | e <;> subst e <;> rcases (show j = 0 ∨ j = 1 ∨ j = 2 ∨ j = 3 ∨ j = 4 ∨ j = 5 ∨ j = 6 ∨ j = 7 by omega) with e | e | e | e | e | e | e | e <;> subst e <;> first | rfl | (exact absurd h (by decide))
theorem mSet {j : Nat} {v w : Int32} (h : dMR bt N M μ0 L n 0 s μ) (hj : j < 8) (hv : ∀ P T k, s = .ok P T k → v = w) : dMR bt N M μ0 L n 0 (rSg j w s) (px_up μ (1, 3, 0) (11 + dst j) v) := by
  have hd := @dst_3 j
  have e0 : px_up μ (1, 3, 0) (11 + dst j) v (0, 0, 0) = μ (0, 0, 0) := upo (by simp)
  refine ⟨dMX_w h.X (Or.inl ⟨rfl, by omega⟩), h.n12, by rw [up_s, if_neg (by omega)]; exact h.hn, by rw [up_s, if_neg (by omega)]; exact h.hm, by rw [up_s, if_neg (by omega)]; exact h.hs, by rw [e0]; exact h.ln, ?_⟩
  cases s with
  | inr zz =>
    obtain ⟨f, pl⟩ := zz
    have hs : dMB f pl μ := h.s
    exact ⟨by rw [e0]; exact hs.1, hs.2.1, by rw [e0]; exact hs.2.2⟩
  | inl zz =>
    obtain ⟨P, T, k⟩ := zz
    have hs : dMO bt N M n 0 P T k μ := h.s
    rw [hv P T k rfl] at e0 ⊢
    refine ⟨hs.hn, hs.hk, by rw [e0]; exact hs.f0, by rw [e0]; exact hs.ha, by rw [e0]; exact hs.pl, by rw [e0]; exact hs.kd, by rw [e0]; exact hs.v, by rw [e0]; exact hs.r, by rw [upo (by simp)]; exact hs.t, by rw [up_s, if_neg (by omega)]; exact hs.m, by rw [up_s, if_neg (by omega)]; exact hs.st, fun a i ha hi => ?_, fun a i h1 h2 h3 => ?_, fun i hi => ?_⟩
    · rw [upo (by simp)]
      show _ = if a = 14 ∧ i = j then w else P.2.2.2 a i
      rw [if_neg (by omega)]
      exact hs.a a i ha hi
    · rw [upo (by simp; omega)]
      show _ = if a = 14 ∧ i = j then w else P.2.2.2 a i
      rw [if_neg (by omega)]
      exact hs.s a i h1 h2 h3
    · rw [up_s]
      show _ = if 14 = 14 ∧ i = j then w else P.2.2.2 14 i
      by_cases e : i = j
      · rw [if_pos ⟨rfl, by rw [e]⟩, if_pos ⟨rfl, e⟩]
      · rw [if_neg (fun z => e (dst_in hi hj (by omega))), if_neg (fun z => e z.2)]; exact hs.e i hi
theorem mTold {i : Nat} {v : Int32} {P : dP} (h : dMR bt N M μ0 L n 0 (.ok P T k) μ) (hv : v = 1) : dMR bt N M μ0 L n 0 (.ok P (fun j => if j = i then true else T j) k) (px_up μ (1, 4, 0) i v) := by
  have hs : dMO bt N M n 0 P T k μ := h.s
  have e0 : ∀ j : pxI, j ≠ (1, 4, 0) → px_up μ (1, 4, 0) i v j = μ j := fun j hj => upo hj
  refine ⟨dMX_w h.X (by omega), h.n12, by rw [e0 _ (by simp)]; exact h.hn, by rw [e0 _ (by simp)]; exact h.hm, by rw [e0 _ (by simp)]; exact h.hs, by rw [e0 _ (by simp)]; exact h.ln, ?_⟩
  refine ⟨hs.hn, hs.hk, by rw [e0 _ (by simp)]; exact hs.f0, by rw [e0 _ (by simp)]; exact hs.ha, by rw [e0 _ (by simp)]; exact hs.pl, by rw [e0 _ (by simp)]; exact hs.kd, by rw [e0 _ (by simp)]; exact hs.v, by rw [e0 _ (by simp)]; exact hs.r, fun w hw => ?_, by rw [e0 _ (by simp)]; exact hs.m, by rw [e0 _ (by simp)]; exact hs.st, fun a x h1 h2 => by rw [e0 _ (by simp)]; exact hs.a a x h1 h2, fun a x h1 h2 h3 => by rw [e0 _ (by simp; omega)]; exact hs.s a x h1 h2 h3, fun x hx => by rw [e0 _ (by simp)]; exact hs.e x hx⟩
  rw [up_s]
  by_cases e : w = i
  · rw [if_pos ⟨rfl, e⟩, hv]; simp [e]
  · rw [if_neg (fun z => e z.2), hs.t w hw]; simp [e]
theorem mToldB {i f pl : Nat} {v : Int32} (h : dMR bt N M μ0 L n 0 (.bad f pl) μ) : dMR bt N M μ0 L n 0 (.bad f pl) (px_up μ (1, 4, 0) i v) := by
  have hs : dMB f pl μ := h.s
  have e0 : ∀ j : pxI, j ≠ (1, 4, 0) → px_up μ (1, 4, 0) i v j = μ j := fun j hj => upo hj
  exact ⟨dMX_w h.X (by omega), h.n12, by rw [e0 _ (by simp)]; exact h.hn, by rw [e0 _ (by simp)]; exact h.hm, by rw [e0 _ (by simp)]; exact h.hs, by rw [e0 _ (by simp)]; exact h.ln, by rw [e0 _ (by simp)]; exact hs.1, hs.2.1, by rw [e0 _ (by simp)]; exact hs.2.2⟩
theorem mNs {j l m : Nat} {Q : pxS → Prop} {f : pxS → Option pxS} (hj : j < 8) (hm : m < 1000000) (hl : l ≤ m) (h : dMR bt N M μ0 L n 0 s μ) (hf : ∀ τ, dMR bt N M μ0 L n 0 (rNs (dtk bt N M) j l m s) τ → dw (f τ) Q) : dw (px_b2 (F_Mo_numeral μ (dn l) (dn m)) fun r5 σ5 => px_b1 (F_Mo_reads σ5 (dn (dst j)) r5) f) Q := by
  have hd := @dst_3 j
  rw [dw_b2]
  refine dw_mono (mNum hm hl h) fun r hr => dw_v (mReads (by omega)) ?_
  exact hf _ (mSet hr.1 hj hr.2)
theorem mOnce {i j l m : Nat} {P : dP} (h : dMR bt N M μ0 L n 0 (.ok P T k) μ) (hk : (dtk bt N M k).1 ≠ 0) (hi : i < 14) (hj : j < 8) (hm : m < 1000000) (hl : l ≤ m) : dw (F_Mo_readOnce μ (dn i) (dn (dst j)) (dn l) (dn m)) (mQ bt N M μ0 L (if T i = true then .bad 3 (dtk bt N M k).2.2.2.1 else rNs (dtk bt N M) j l m (.ok P (fun j => if j = i then true else T j) (k + 1)))) := by
  have hs : dMO bt N M n 0 P T k μ := h.s
  have fin : ∀ {s : rRes} {τ : pxS}, dMR bt N M μ0 L n 0 s τ → (∀ P T k, s = .ok P T k → (dtk bt N M k).1 ≠ 0) → dw (px_b1 (F_Mo_goOn τ) fun σ4 => px_b2 (F_Mo_numeral σ4 (dn l) (dn m)) fun r5 σ5 => px_b1 (F_Mo_reads σ5 (dn (dst j)) r5) fun σ6 => some σ6) (mQ bt N M μ0 L (rNs (dtk bt N M) j l m (rGo s))) := fun h hk => by
    rw [dw_b1]
    exact dw_mono (mGo h hk) fun τ h2 => mNs hj hm hl h2 fun τ3 h3 => dw_some.mpr ⟨n, h3⟩
  unfold F_Mo_readOnce Mo_readOnce_n14
  refine dw_gi (by omega) (by omega) ?_
  rw [dn_nat (show i < 2147483648 by omega), hs.t i hi, dnar_1]
  by_cases c : T i = true
  · rw [if_pos c, if_neg (by decide), if_pos c, dw_b1]
    refine dw_mono (mWrong (f := 3) h (by omega)) fun τ hτ => dw_gi (by omega) (by omega) (dw_l.mpr ?_)
    have hτ : dMR bt N M μ0 L n 0 (.bad 3 (dtk bt N M k).2.2.2.1) τ := hτ
    exact fin (mToldB hτ) fun P T k z => by cases z
  · rw [if_neg c, if_pos rfl, if_neg c]
    refine dw_gi (by omega) (by omega) (dw_l.mpr ?_)
    exact fin (mTold h rfl) fun P T k z => by cases z; exact hk
theorem mSett {i : Nat} {P : dP} (h : dMR bt N M μ0 L n 0 (.ok P T k) μ) (hk : (dtk bt N M k).1 ≠ 0) (hi : i < 13) (hi6 : 6 ≤ i) {F : pxS → Option pxS} {s' : rRes} {Q : pxS → Prop} (hs' : s' = if T i = true then .bad 3 (dtk bt N M k).2.2.2.1 else rSett (dtk bt N M) (i - 6) (.ok P (fun j => if j = i then true else T j) (k + 1))) (hv : μ (0, 0, 0) 21 = dn i) (hF : F = Mo_readLine_n80) (hQ : ∀ τ, mQ bt N M μ0 L s' τ → dw (Mo_readLine_n221 τ) Q) : dw (F μ) Q := by
  have e0 : ∀ w : Nat, w < 100 → (dn i = dn w ↔ i = w) := fun w hw => dn_inj (by omega) (by omega)
  have e6 : dn i = (6 : Int32) ↔ i = 6 := e0 6 (by omega)
  have e7 : dn i = (7 : Int32) ↔ i = 7 := e0 7 (by omega)
  have e8 : dn i = (8 : Int32) ↔ i = 8 := e0 8 (by omega)
  have e9 : dn i = (9 : Int32) ↔ i = 9 := e0 9 (by omega)
  have e10 : dn i = (10 : Int32) ↔ i = 10 := e0 10 (by omega)
  have e11 : dn i = (11 : Int32) ↔ i = 11 := e0 11 (by omega)
  subst hF
  unfold Mo_readLine_n80
  rw [hv]
  by_cases d6 : i = 6
  · rw [if_pos (e6.mpr d6), dw_b1]
    subst d6
    exact dw_mono (mOnce (i := 6) (j := 0) (l := 1) (m := 999) h hk (by omega) (by omega) (by omega) (by omega)) fun τ hτ => hQ τ (by rw [hs']; exact hτ)
  rw [if_neg (fun z => d6 (e6.mp z))]
  by_cases d7 : i = 7
  · rw [if_pos (e7.mpr d7), dw_b1]
    subst d7
    exact dw_mono (mOnce (i := 7) (j := 1) (l := 1) (m := 9999) h hk (by omega) (by omega) (by omega) (by omega)) fun τ hτ => hQ τ (by rw [hs']; exact hτ)
  rw [if_neg (fun z => d7 (e7.mp z))]
  by_cases d8 : i = 8
  · rw [if_pos (e8.mpr d8), dw_b1]
    subst d8
    exact dw_mono (mOnce (i := 8) (j := 2) (l := 1) (m := 100) h hk (by omega) (by omega) (by omega) (by omega)) fun τ hτ => hQ τ (by rw [hs']; exact hτ)
  rw [if_neg (fun z => d8 (e8.mp z))]
  by_cases d9 : i = 9
  · rw [if_pos (e9.mpr d9), dw_b1]
    subst d9
    exact dw_mono (mOnce (i := 9) (j := 3) (l := 1) (m := 9) h hk (by omega) (by omega) (by omega) (by omega)) fun τ hτ => hQ τ (by rw [hs']; exact hτ)
  rw [if_neg (fun z => d9 (e9.mp z))]
  by_cases d10 : i = 10
  · rw [if_pos (e10.mpr d10), dw_b1]
    subst d10
    unfold F_Mo_readRetry
    rw [dw_b1]
    refine dw_mono (mOnce (i := 10) (j := 4) (l := 0) (m := 9) h hk (by omega) (by omega) (by omega) (by omega)) fun τ ⟨n', hτ⟩ => ?_
    refine mNs (j := 5) (l := 1) (m := 99) (by omega) (by omega) (by omega) hτ fun τ2 h2 => dw_some.mpr (hQ τ2 ⟨n', ?_⟩)
    rw [hs']
    by_cases c : T 10 = true
    · rw [if_pos c] at h2 ⊢; exact h2
    · rw [if_neg c] at h2 ⊢; exact h2
  rw [if_neg (fun z => d10 (e10.mp z))]
  by_cases d11 : i = 11
  · rw [if_pos (e11.mpr d11), dw_b1]
    subst d11
    exact dw_mono (mOnce (i := 11) (j := 6) (l := 1) (m := 999999) h hk (by omega) (by omega) (by omega) (by omega)) fun τ hτ => hQ τ (by rw [hs']; exact hτ)
  rw [if_neg (fun z => d11 (e11.mp z)), dw_b1]
  have d12 : i = 12 := by omega
  subst d12
  exact dw_mono (mOnce (i := 12) (j := 7) (l := 0) (m := 99999) h hk (by omega) (by omega) (by omega) (by omega)) fun τ hτ => hQ τ (by rw [hs']; exact hτ)
theorem mEndL (h : mQ bt N M μ0 L s μ) : dw (Mo_readLine_n221 μ) (mQ bt N M μ0 (L + 1) (rTk (dtk bt N M) 4 s)) := by
  obtain ⟨n, h⟩ := h
  have fin : ∀ {s : rRes} {τ : pxS}, dMR bt N M μ0 L n 0 s τ → (∀ P T k, s = .ok P T k → (dtk bt N M k).1 ≠ 0) → dw (Mo_readLine_n241 τ) (mQ bt N M μ0 (L + 1) (rGo s)) := fun {s τ} h hk => by
    unfold Mo_readLine_n241
    rw [dw_b1]
    refine dw_mono (mGo h hk) fun τ h2 => dw_l.mpr (dw_some.mpr ⟨n, ?_⟩)
    rw [h2.ln]
    generalize hτ : px_up τ (0, 0, 0) 16 (L + 1) = τ'
    have g : d0 [16] τ τ' := by rw [← hτ]; exact d0_up (by simp)
    have e1 : ∀ j : pxI, j ≠ (0, 0, 0) → τ' j = τ j := g.2
    refine ⟨dMX_0 h2.X g (by simp), h2.n12, by rw [e1 _ (by simp)]; exact h2.hn, by rw [e1 _ (by simp)]; exact h2.hm, by rw [e1 _ (by simp)]; exact h2.hs, by rw [← hτ, up_0, if_pos rfl], ?_⟩
    cases hs : rGo s with
    | inr zz =>
      obtain ⟨f, pl⟩ := zz
      rw [hs] at h2
      have h3 : dMB f pl τ := h2.s
      exact ⟨by rw [g.1 _ (by simp)]; exact h3.1, h3.2.1, by rw [g.1 _ (by simp)]; exact h3.2.2⟩
    | inl zz =>
      obtain ⟨P, T, k⟩ := zz
      rw [hs] at h2
      have h3 : dMO bt N M n 0 P T k τ := h2.s
      exact ⟨h3.hn, h3.hk, by rw [g.1 _ (by simp)]; exact h3.f0, by rw [g.1 _ (by simp)]; exact h3.ha, by rw [g.1 _ (by simp)]; exact h3.pl, by rw [g.1 _ (by simp)]; exact h3.kd, by rw [g.1 _ (by simp)]; exact h3.v, by rw [g.1 _ (by simp)]; exact h3.r, by rw [e1 _ (by simp)]; exact h3.t, by rw [e1 _ (by simp)]; exact h3.m, by rw [e1 _ (by simp)]; exact h3.st, fun a i h1 h2 => by rw [e1 _ (by simp)]; exact h3.a a i h1 h2, fun a i h1 h2 h4 => by rw [e1 _ (by simp)]; exact h3.s a i h1 h2 h4, fun i hi => by rw [e1 _ (by simp)]; exact h3.e i hi⟩
  unfold Mo_readLine_n221
  cases s with
  | inr zz =>
    obtain ⟨f, pl⟩ := zz
    rw [if_neg (dMB_ne h.s)]
    exact fin h fun P T k z => by cases z
  | inl zz =>
    obtain ⟨P, T, k⟩ := zz
    have hs : dMO bt N M n 0 P T k μ := h.s
    have k5 := h.X.K.k5 k hs.hk
    have etk := dtk_l (bt := bt) (N := N) hs.hk
    rw [etk] at k5
    rw [if_pos hs.f0, hs.kd, rTk_ok, etk]
    by_cases c : (dTs' bt N k).1 = 4
    · rw [if_pos ((dRk_3 k5).2.2.2.1.mpr c), if_pos c]
      exact fin h fun P' T' k' z => by cases z; rw [etk, c]; omega
    · rw [if_neg (fun z => c ((dRk_3 k5).2.2.2.1.mp z)), if_neg c, dw_b1]
      refine dw_mono (mWrong (f := 1) h (by omega)) fun τ hτ => ?_
      have hτ : dMR bt N M μ0 L n 0 (.bad 1 (dtk bt N M k).2.2.2.1) τ := hτ
      rw [etk] at hτ
      exact fin hτ fun P T k z => by cases z
theorem mLine {P : dP} (h : dMR bt N M μ0 L n 0 (.ok P T k) μ) (hk : (dtk bt N M k).1 ≠ 0) : dw (F_Mo_readLine μ) (mQ bt N M μ0 (L + 1) (rLine (dtk bt N M) (.ok P T k))) := by
  have hs : dMO bt N M n 0 P T k μ := h.s
  have k5 := h.X.K.k5 k hs.hk
  have hv2 := h.X.K.v2 k hs.hk
  have etk := dtk_l (bt := bt) (N := N) hs.hk
  have n16 : dw (Mo_readLine_n16 μ) (mQ bt N M μ0 (L + 1) (.bad 1 (dtk bt N M k).2.2.2.1)) := by
    unfold Mo_readLine_n16
    rw [dw_b1]
    exact dw_mono (mWrong (f := 1) h (by omega)) fun τ hτ => mEndL ⟨n, hτ⟩
  unfold F_Mo_readLine
  rw [hs.kd]
  rw [etk] at k5
  by_cases c : (dTs' bt N k).1 = 2
  · obtain ⟨i, hi, e⟩ := hv2 (by rw [etk]; exact c)
    have e' : (dTs' bt N k).2.1 = dn i := by rw [← etk]; exact e
    rw [if_pos ((dRk_3 k5).2.2.1.mpr c), hs.v (Or.inr c), e']
    have e0 : ∀ w : Nat, w < 100 → (dn i = dn w ↔ i = w) := fun w hw => dn_inj (by omega) (by omega)
    have e13 : dn i = (13 : Int32) ↔ i = 13 := e0 13 (by omega)
    by_cases c1 : i = 13
    · rw [if_pos (e13.mpr c1), show rLine (dtk bt N M) (.ok P T k) = .bad 1 (dtk bt N M k).2.2.2.1 from if_neg (fun z => z.2 (by rw [e, c1]; rfl))]
      exact n16
    · rw [if_neg (fun z => c1 (e13.mp z)), show rLine (dtk bt N M) (.ok P T k) = rTk (dtk bt N M) 4 (rBody (dtk bt N M) P T k i) from (if_pos ⟨by rw [etk]; exact c, fun z => c1 ((e0 13 (by omega)).mp (e.symm.trans z))⟩).trans (by rw [e, dn_nat (by omega)])]
      unfold rBody
      by_cases d0 : i = 0
      · subst d0
        rw [if_pos (show dn 0 = 0 from rfl), if_pos (show (0 : Nat) = 0 from rfl), dw_b1]
        exact dw_mono (mRail h hk) fun τ hτ => mEndL hτ
      rw [if_neg (show ¬ dn i = 0 from fun z => d0 ((e0 0 (by omega)).mp z)), if_neg d0]
      by_cases d1 : i = 1
      · subst d1
        rw [if_pos (show dn 1 = 1 from rfl), if_pos (show (1 : Nat) = 1 from rfl), dw_b1]
        exact dw_mono (mNeed h hk) fun τ hτ => mEndL hτ
      rw [if_neg (show ¬ dn i = 1 from fun z => d1 ((e0 1 (by omega)).mp z)), if_neg d1, if_neg (by rw [show (2 : Int32) = dn 2 from rfl, dn_lt (by omega) (by omega)]; omega)]
      by_cases d6 : i < 6
      · rw [if_neg (show ¬ (5 : Int32) < dn i by rw [show (5 : Int32) = dn 5 from rfl, dn_lt (by omega) (by omega)]; omega), if_pos d6, dw_b1]
        exact dw_mono (mStep h hk (by omega) d6) fun τ hτ => mEndL hτ
      · rw [if_pos (show (5 : Int32) < dn i by rw [show (5 : Int32) = dn 5 from rfl, dn_lt (by omega) (by omega)]; omega), if_neg d6]
        exact mSett h hk (by omega) (by omega) rfl ((hs.v (Or.inr c)).trans e') rfl fun τ hτ => mEndL hτ
  · rw [show rLine (dtk bt N M) (.ok P T k) = .bad 1 (dtk bt N M k).2.2.2.1 from if_neg (fun z => c (by rw [← etk]; exact z.1)), if_neg (fun z => c ((dRk_3 k5).2.2.1.mp z))]
    exact n16
end I6
end
section
/-! the reference reads a text -/
section I7
variable {bt : Nat → Nat} {N M n c k : Nat} {μ0 μ μ' : pxS} {L : Int32} {s : rRes} {P : dP} {T : Nat → Bool}
theorem mFresh : dw (F_Mo_freshText μ) (fun τ => τ (1, 3, 0) 11 = 0 ∧ τ (1, 3, 0) 12 = 0 ∧ τ (1, 3, 0) 13 = 0 ∧ (∀ i, i < 8 → τ (1, 3, 0) (11 + dst i) = rP0.2.2.2 14 i) ∧ (∀ w, w < 14 → τ (1, 4, 0) w = 0) ∧ (∀ x, x < 11 → τ (1, 3, 0) x = μ (1, 3, 0) x) ∧ ∀ j, j ≠ (1, 3, 0) → j ≠ (1, 4, 0) → τ j = μ j) := by
  unfold F_Mo_freshText
  rw [dw_b1]
  refine dw_mono (P := fun τ : pxS => (∀ x, x < 11 → τ (1, 3, 0) (11 + x) = 0) ∧ (∀ x, x < 11 → τ (1, 3, 0) x = μ (1, 3, 0) x) ∧ ∀ j, j ≠ (1, 3, 0) → τ j = μ j) ?_ fun τ ⟨g1, g2, g3⟩ => ?_
  · refine dw_up 11 (by unfold px_N; omega) (fun t s => s.1 = dn t ∧ (∀ x, x < t → s.2 (1, 3, 0) (11 + x) = 0) ∧ (∀ x, x < 11 → s.2 (1, 3, 0) x = μ (1, 3, 0) x) ∧ ∀ j, j ≠ (1, 3, 0) → s.2 j = μ j) (fun t s ht hI => ?_) (fun s hI => ?_) (Nat.zero_le _) ⟨rfl, fun x hx => absurd hx (Nat.not_lt_zero _), fun _ _ => rfl, fun _ _ => rfl⟩
    · obtain ⟨v, τ⟩ := s
      obtain ⟨rfl, h1, h2, h3⟩ := hI
      dsimp only at h1 h2 h3
      show dw (Mo_freshText_n2 τ (dn t)) _
      unfold Mo_freshText_n2
      rw [if_neg (by rw [show (11 : Int32) = dn 11 from rfl, dn_le (by omega) (by omega)]; omega)]
      refine dw_v (mReads (by omega)) (dw_some.mpr ⟨dn_suc t, fun x hx => ?_, fun x hx => ?_, fun j hj => ?_⟩)
      · show px_up τ (1, 3, 0) (11 + t) 0 (1, 3, 0) (11 + x) = 0
        rw [up_s]
        by_cases e : x = t
        · rw [if_pos ⟨rfl, by rw [e]⟩]
        · rw [if_neg (fun z => e (by omega))]; exact h1 x (by omega)
      · show px_up τ (1, 3, 0) (11 + t) 0 (1, 3, 0) x = _
        rw [up_s, if_neg (by omega)]; exact h2 x hx
      · show px_up τ (1, 3, 0) (11 + t) 0 j = _
        rw [upo hj]; exact h3 j hj
    · obtain ⟨v, τ⟩ := s
      obtain ⟨rfl, h1, h2, h3⟩ := hI
      show dw (Mo_freshText_n2 τ (dn 11)) _
      unfold Mo_freshText_n2
      rw [if_pos (by decide)]
      exact dw_some.mpr ⟨h1, h2, h3⟩
  · refine dw_v (mReads (j := 3) (by omega)) (dw_v (mReads (j := 4) (by omega)) (dw_v (mReads (j := 5) (by omega)) (dw_v (mReads (j := 6) (by omega)) (dw_v (mReads (j := 8) (by omega)) (dw_v (mReads (j := 10) (by omega)) ?_)))))
    generalize hτ : px_up (px_up (px_up (px_up (px_up (px_up τ (1, 3, 0) (11 + 3) 50) (1, 3, 0) (11 + 4) 500) (1, 3, 0) (11 + 5) 90) (1, 3, 0) (11 + 6) 99999) (1, 3, 0) (11 + 8) 1) (1, 3, 0) (11 + 10) 10 = τ2
    have k1 : ∀ j, j ≠ (1, 3, 0) → τ2 j = μ j := fun j hj => by rw [← hτ, upo hj, upo hj, upo hj, upo hj, upo hj, upo hj]; exact g3 j hj
    have k2 : ∀ x, x < 11 → τ2 (1, 3, 0) x = μ (1, 3, 0) x := fun x hx => by
      rw [← hτ, up_s, if_neg (by omega), up_s, if_neg (by omega), up_s, if_neg (by omega), up_s, if_neg (by omega), up_s, if_neg (by omega), up_s, if_neg (by omega)]; exact g2 x hx
    have k3 : ∀ x, x < 11 → τ2 (1, 3, 0) (11 + x) = if x = 10 then 10 else if x = 8 then 1 else if x = 6 then 99999 else if x = 5 then 90 else if x = 4 then 500 else if x = 3 then 50 else 0 := fun x hx => by
      rw [← hτ]
      simp only [up_s, true_and, Nat.add_left_cancel_iff, g1 x hx]
    rw [dw_b1]
    refine dw_mono (P := fun τ : pxS => (∀ w, w < 14 → τ (1, 4, 0) w = 0) ∧ ∀ j, j ≠ (1, 4, 0) → τ j = τ2 j) ?_ fun τ3 ⟨q1, q2⟩ => dw_some.mpr ?_
    · refine dw_up 14 (by unfold px_N; omega) (fun t s => s.1 = dn t ∧ (∀ x, x < t → s.2 (1, 4, 0) x = 0) ∧ ∀ j, j ≠ (1, 4, 0) → s.2 j = τ2 j) (fun t s ht hI => ?_) (fun s hI => ?_) (Nat.zero_le _) ⟨rfl, fun x hx => absurd hx (Nat.not_lt_zero _), fun _ _ => rfl⟩
      · obtain ⟨v, τ⟩ := s
        obtain ⟨rfl, h1, h3⟩ := hI
        dsimp only at h1 h3
        show dw (Mo_freshText_n67 τ (dn t)) _
        unfold Mo_freshText_n67
        rw [if_neg (by rw [show (14 : Int32) = dn 14 from rfl, dn_le (by omega) (by omega)]; omega), dnar_0]
        refine dw_gi (by omega) (by omega) (dw_l.mpr (dw_some.mpr ⟨dn_suc t, fun x hx => ?_, fun j hj => ?_⟩))
        · show px_up τ (1, 4, 0) (dn t).toNatClampNeg 0 (1, 4, 0) x = 0
          rw [dn_nat (by omega), up_s]
          by_cases e : x = t
          · rw [if_pos ⟨rfl, e⟩]
          · rw [if_neg (fun z => e z.2)]; exact h1 x (by omega)
        · show px_up τ (1, 4, 0) (dn t).toNatClampNeg 0 j = _
          rw [upo hj]; exact h3 j hj
      · obtain ⟨v, τ⟩ := s
        obtain ⟨rfl, h1, h3⟩ := hI
        show dw (Mo_freshText_n67 τ (dn 14)) _
        unfold Mo_freshText_n67
        rw [if_pos (by decide)]
        exact dw_some.mpr ⟨h1, h3⟩
    · have e3 : τ3 (1, 3, 0) = τ2 (1, 3, 0) := q2 _ (by simp)
      refine ⟨by rw [e3]; exact k3 0 (by omega), by rw [e3]; exact k3 1 (by omega), by rw [e3]; exact k3 2 (by omega), fun i hi => ?_, q1, fun x hx => by rw [e3]; exact k2 x hx, fun j h1 h2 => (q2 j h2).trans (k1 j h1)⟩
      rw [e3, k3 _ (by have := @dst_3 i; omega)]
      rcases (show i = 0 ∨ i = 1 ∨ i = 2 ∨ i = 3 ∨ i = 4 ∨ i = 5 ∨ i = 6 ∨ i = 7 by omega) with e | e | e | e | e | e | e | e <;> rw [e] <;> rfl
theorem mReadText {m t : Nat} (hn : n ≤ 700) (hb : ∀ t, t < n → bt t < 256 ∧ μ (1, 1, 0) t = dn (bt t)) (hm : m ≤ n) (h0 : (dTs' bt n m).1 = 0) (h1 : ∀ k, k < m → (dTs' bt n k).1 ≠ 0) (hp : ∀ k, k ≤ m → k ≤ dPs bt n k ∧ dPs bt n k ≤ n) (ht : t ≤ m) (hd : rDone (dtk bt n m) (rS (dtk bt n m) t)) (hd1 : ∀ t', t' < t → ∃ P T k, rS (dtk bt n m) t' = .ok P T k ∧ (dtk bt n m k).1 ≠ 0) : dw (F_Mo_readText μ (dn n)) (fun τ => ∃ n', dMR bt n m (px_up μ (0, 0, 0) 17 (dn n)) (dn t) n' 0 (rS (dtk bt n m) t) τ) := by
  obtain ⟨hK, _, _⟩ := dtk_K hm hn h0 h1
  unfold F_Mo_readText
  simp only [dw_l]
  generalize hμ0 : px_up μ (0, 0, 0) 17 (dn n) = μ0
  have a17 : μ0 (0, 0, 0) 17 = dn n := by rw [← hμ0, up_0, if_pos rfl]
  have a0 : ∀ j, j ≠ (0, 0, 0) → μ0 j = μ j := fun j hj => by rw [← hμ0]; exact upo hj
  generalize hμ1 : px_up (px_up (px_up μ0 (0, 0, 0) 18 0) (0, 0, 0) 22 0) (0, 0, 0) 16 0 = μ1
  have b0 : d0 [16, 18, 22] μ0 μ1 := by rw [← hμ1]; exact d0_trans (d0_trans (d0_up (by simp)) (d0_up (by simp))) (d0_up (by simp))
  have b18 : μ1 (0, 0, 0) 18 = dn 0 := by rw [← hμ1, up_0, if_neg (by omega), up_0, if_neg (by omega), up_0, if_pos rfl]; rfl
  have b22 : μ1 (0, 0, 0) 22 = 0 := by rw [← hμ1, up_0, if_neg (by omega), up_0, if_pos rfl]
  have b16 : μ1 (0, 0, 0) 16 = 0 := by rw [← hμ1, up_0, if_pos rfl]
  rw [dw_b1]
  refine dw_mono mFresh fun τ ⟨f11, f12, f13, fe, ft, fx, fr⟩ => ?_
  have c0 : τ (0, 0, 0) = μ1 (0, 0, 0) := fr _ (by simp) (by simp)
  have hKM : dKM τ bt n := ⟨hn, fun t ht => by rw [fr _ (by simp) (by simp), b0.2 _ (by simp), a0 _ (by simp)]; exact hb t ht, by rw [c0, b0.1 _ (by simp)]; exact a17⟩
  rw [dw_b1]
  refine dw_mono (dtokM (a := 0) hKM (by rw [c0]; exact b18) (by omega)) fun τ2 ⟨g1, g2, g3, g4, g5, g6⟩ => ?_
  have e : dTk bt n 0 = dTs' bt n 0 := rfl
  rw [e] at g1 g2 g3 g4 g5
  have hfirst : dMR bt n m μ0 (dn 0) 0 0 (rS (dtk bt n m) 0) τ2 := by
    have x3 : τ2 (1, 3, 0) = τ (1, 3, 0) := g6.2 _ (by simp)
    have xo : ∀ j, j ≠ (0, 0, 0) → j ≠ (1, 3, 0) → j ≠ (1, 4, 0) → τ2 j = μ0 j := fun j h0 h1 h2 => by rw [g6.2 _ h0, fr j h1 h2, b0.2 _ h0]
    refine ⟨⟨dKM_0 hKM (by simp) g6, hK, fun k hk => (hp k hk).2, fun j j1 j2 => xo j j1 (j2 3 (by omega) (by omega)) (j2 4 (by omega) (by omega)), fun q hq => ?_, fun x hx => ?_, fun a x h1 h2 h3 => ?_, fun a x h1 h2 h3 => ?_⟩, Nat.zero_le _, by rw [x3]; exact f11, ⟨0, Nat.zero_le _, by rw [x3]; exact f12⟩, ⟨0, Nat.zero_le _, by rw [x3]; exact f13⟩, by rw [g6.1 _ (by simp), c0]; exact b16, ?_⟩
    · rw [g6.1 q (fun z => hq (by simp at z ⊢; omega)), c0, b0.1 q (fun z => hq (by simp at z ⊢; omega))]
    · rw [x3, fx x hx, b0.2 _ (by simp)]
    · rw [xo _ (by simp) (by simp; omega) (by simp; omega)]
    · rw [xo _ (by simp) (by simp; omega) (by simp; omega)]
    · exact ⟨rfl, Nat.zero_le _, by rw [g6.1 _ (by simp), c0]; exact b22, g1, g2, g3, g4, g5, fun w hw => by rw [g6.2 _ (by simp)]; exact ft w hw, ⟨by rw [x3]; exact f12, Nat.zero_le _⟩, ⟨by rw [x3]; exact f13, Nat.zero_le _⟩, fun a i _ hi => absurd hi (by omega), fun a i _ _ hi => absurd hi (Nat.not_lt_zero _), fun i hi => by rw [x3]; exact fe i hi⟩
  rw [dw_b1]
  refine dw_mono (P := fun τ => ∃ n', dMR bt n m μ0 (dn t) n' 0 (rS (dtk bt n m) t) τ) ?_ fun τ h => dw_some.mpr h
  refine dw_up t (by unfold px_N; omega) (fun x s => ∃ n', dMR bt n m μ0 (dn x) n' 0 (rS (dtk bt n m) x) s) (fun x τ hx hI => ?_) (fun τ hI => ?_) (Nat.zero_le _) ⟨0, hfirst⟩
  · obtain ⟨n', hI⟩ := hI
    show dw (Mo_readText_n28 τ) _
    unfold Mo_readText_n28
    obtain ⟨P, T, k, e, hk⟩ := hd1 x hx
    have hnext : rS (dtk bt n m) (x + 1) = rLine (dtk bt n m) (rS (dtk bt n m) x) := rfl
    rw [e] at hI hnext
    have hs : dMO bt n m n' 0 P T k τ := hI.s
    have k5 := hK.k5 k hs.hk
    have etk := dtk_l (bt := bt) (N := n) hs.hk
    rw [etk] at k5
    rw [if_pos hs.f0, if_neg (by rw [hs.kd]; exact fun z => hk (by rw [etk]; exact (dRk_3 k5).2.2.2.2.mp z)), dw_b1]
    refine dw_mono (mLine hI hk) fun τ2 h2 => dw_some.mpr ?_
    show ∃ n', dMR bt n m μ0 (dn (x + 1)) n' 0 (rS (dtk bt n m) (x + 1)) τ2
    rw [hnext, ← dn_suc]
    exact h2
  · obtain ⟨n', hI⟩ := hI
    show dw (Mo_readText_n28 τ) _
    unfold Mo_readText_n28
    have key : dR (fun _ => False) (fun τ => ∃ n', dMR bt n m μ0 (dn t) n' 0 (rS (dtk bt n m) t) τ) (Sum.inr τ : pxS ⊕ pxS) := ⟨n', hI⟩
    cases e : rS (dtk bt n m) t with
    | inr zz =>
      obtain ⟨f, pl⟩ := zz
      rw [e] at hI key
      rw [if_neg (dMB_ne hI.s)]; exact dw_some.mpr key
    | inl zz =>
      obtain ⟨P, T, k⟩ := zz
      rw [e] at hI key hd
      have hs : dMO bt n m n' 0 P T k τ := hI.s
      have k5 := hK.k5 k hs.hk
      have etk := dtk_l (bt := bt) (N := n) hs.hk
      rw [etk] at k5
      have hd : (dtk bt n m k).1 = 0 := hd
      rw [etk] at hd
      rw [if_pos hs.f0, if_pos (by rw [hs.kd]; exact (dRk_3 k5).2.2.2.2.mpr hd)]
      exact dw_some.mpr key
end I7
end
section
/-! what hangs on what, closed -/
def cW (P : dP) : Nat → Nat → Nat → Bool
  | 0, i, j => db (P.2.2.2 8 i) j
  | k + 1, i, j => cW P k i j || (cW P k i k && cW P k k j)
def dTd (P : dP) (i : Nat) : Int32 := P.2.2.2 7 i ||| (if P.2.2.2 1 i < 0 then (0 : Int32) else 1 <<< (P.2.2.2 1 i &&& 31))
def dT8 (P : dP) : dP := (P.1, P.2.1, P.2.2.1, fun a i => if a = 8 then dTd P i else P.2.2.2 a i)
def dTie (P : dP) : dP := (P.1, P.2.1, P.2.2.1, fun a i => if a = 8 then dTd P i else if a = 9 then dOr (fun j => cW (dT8 P) P.1 i j) 32 else if a = 10 then dOr (fun j => decide (j < P.1) && cW (dT8 P) P.1 j i) 32 else P.2.2.2 a i)
section J1
variable {P : dP}
theorem cW_s {k i j : Nat} : cW P (k + 1) i j = true ↔ cW P k i j = true ∨ (cW P k i k = true ∧ cW P k k j = true) := by
  show (cW P k i j || (cW P k i k && cW P k k j)) = true ↔ _
  rw [Bool.or_eq_true, Bool.and_eq_true]
theorem cW_le {i j : Nat} : ∀ {k k' : Nat}, k ≤ k' → cW P k i j = true → cW P k' i j = true := by
  intro k k' h
  induction k' with
  | zero => intro z; rw [show k = 0 by omega] at z; exact z
  | succ k' ih =>
    intro z
    by_cases e : k = k' + 1
    · rw [← e]; exact z
    · exact cW_s.mpr (Or.inl (ih (by omega) z))
theorem cW_tr {x : Nat} : ∀ {k i j : Nat}, x < k → cW P k i x = true → cW P k x j = true → cW P k i j = true := by
  intro k
  induction k with
  | zero => intro i j h; exact absurd h (Nat.not_lt_zero _)
  | succ k ih =>
    intro i j hx h1 h2
    rw [cW_s] at h1 h2 ⊢
    by_cases e : x = k
    · subst e
      have a1 : cW P x i x = true := h1.elim id fun z => z.1
      have a2 : cW P x x j = true := h2.elim id fun z => z.2
      exact Or.inr ⟨a1, a2⟩
    · have hx : x < k := by omega
      rcases h1 with a | ⟨a, b⟩
      · rcases h2 with c | ⟨c, d⟩
        · exact Or.inl (ih hx a c)
        · exact Or.inr ⟨ih hx a c, d⟩
      · rcases h2 with c | ⟨c, d⟩
        · exact Or.inr ⟨a, ih hx b c⟩
        · exact Or.inr ⟨a, d⟩
theorem rc_comp {j k L2 : Nat} (hk : k < P.1) (h2 : dHop P j L2 k = true) : ∀ {L1 o : Nat}, o < P.1 → dRc P k L1 o = true → dRc P j (L1 + L2 + 1) o = true := by
  intro L1
  induction L1 with
  | zero =>
    intro o ho h
    have e : o = k := by simpa [dRc] using h
    rw [e, Nat.zero_add, dRc_s, h2]
    simp [hk]
  | succ L1 ih =>
    intro o ho h
    rw [dRc_s, Bool.or_eq_true, Bool.and_eq_true] at h
    rcases h with a | ⟨_, a⟩
    · exact dRc_le (by omega) (ih ho a)
    · obtain ⟨o', o1, o2, o3⟩ := dHop_i.mp a
      have : dHop P j (L1 + L2 + 1) o = true := dHop_i.mpr ⟨o', o1, o2, ih o1 o3⟩
      rw [show L1 + 1 + L2 + 1 = (L1 + L2 + 1) + 1 by omega, dRc_s, this]
      simp [ho]
theorem hop_comp {i j k L1 L2 : Nat} (hk : k < P.1) (h1 : dHop P k L1 i = true) (h2 : dHop P j L2 k = true) : dHop P j (L1 + L2 + 1) i = true := by
  obtain ⟨o, o1, o2, o3⟩ := dHop_i.mp h1
  exact dHop_i.mpr ⟨o, o1, o2, rc_comp hk h2 o1 o3⟩
theorem cW_snd (hD : dWD P) (hn : P.1 ≤ 32) : ∀ {k i j : Nat}, k ≤ P.1 → i < P.1 → j < 32 → cW P k i j = true → j < P.1 ∧ ∃ L, dHop P j L i = true := by
  intro k
  induction k with
  | zero =>
    intro i j _ hi hj h
    have h : db (P.2.2.2 8 i) j = true := h
    have hjn := hD i hi j hj h
    exact ⟨hjn, 0, dHop_i.mpr ⟨j, hjn, h, by simp [dRc]⟩⟩
  | succ k ih =>
    intro i j hk hi hj h
    rcases cW_s.mp h with a | ⟨a, b⟩
    · exact ih (by omega) hi hj a
    · obtain ⟨_, L1, l1⟩ := ih (by omega) hi (by omega) a
      obtain ⟨b1, L2, l2⟩ := ih (by omega) (by omega) hj b
      exact ⟨b1, _, hop_comp (by omega) l1 l2⟩
theorem cW_cmp (hn : P.1 ≤ 32) {j : Nat} : ∀ {L o : Nat}, o < P.1 → dRc P j L o = true → o = j ∨ cW P P.1 o j = true := by
  intro L
  induction L with
  | zero => intro o _ h; exact Or.inl (by simpa [dRc] using h)
  | succ L ih =>
    intro o ho h
    rw [dRc_s, Bool.or_eq_true, Bool.and_eq_true] at h
    rcases h with a | ⟨_, a⟩
    · exact ih ho a
    · obtain ⟨o', o1, o2, o3⟩ := dHop_i.mp a
      have e : cW P P.1 o o' = true := cW_le (Nat.zero_le _) o2
      rcases ih o1 o3 with z | z
      · rw [← z]; exact Or.inr e
      · exact Or.inr (cW_tr o1 e z)
theorem cW_iff (hD : dWD P) (hn : P.1 ≤ 32) {i j : Nat} (hi : i < P.1) (hj : j < 32) : cW P P.1 i j = true ↔ j < P.1 ∧ ∃ L, dHop P j L i = true := by
  constructor
  · exact cW_snd hD hn (Nat.le_refl _) hi hj
  · intro ⟨_, L, h⟩
    obtain ⟨o, o1, o2, o3⟩ := dHop_i.mp h
    have e : cW P P.1 i o = true := cW_le (Nat.zero_le _) o2
    rcases cW_cmp hn o1 o3 with z | z
    · rw [← z]; exact e
    · exact cW_tr o1 e z
theorem dTd_b (hW : dWR P) {i j : Nat} (hi : i < P.1) (hj : j < 32) (h : db (dTd P i) j = true) : j < P.1 := by
  have hn := hW.n
  unfold dTd at h
  rw [db_or, Bool.or_eq_true] at h
  rcases h with z | z
  · exact hW.nd i hi j hj z
  · rcases hW.pr i hi with e | ⟨p, p1, e⟩
    · rw [e, if_pos dn_neg2, db_zero] at z; exact absurd z (by decide)
    · rw [e, if_neg (dn_nn (by omega)), db_one (by omega)] at z
      have : p = j := by simpa using z
      omega
theorem cW_8 {k : Nat} {P P' : dP} (h : P.2.2.2 8 = P'.2.2.2 8) : ∀ {i j : Nat}, cW P k i j = cW P' k i j := by
  induction k with
  | zero => intro i j; show db (P.2.2.2 8 i) j = db (P'.2.2.2 8 i) j; rw [h]
  | succ k ih => intro i j; show (cW P k i j || _) = (cW P' k i j || _); rw [ih, ih, ih]
theorem dT8_8 : (dT8 P).2.2.2 8 = dTd P := by funext i; unfold dT8; simp
theorem dTie_8 : (dTie P).2.2.2 8 = dTd P := by funext i; unfold dTie; simp
theorem dTie_9 {i : Nat} : (dTie P).2.2.2 9 i = dOr (fun j => cW (dT8 P) P.1 i j) 32 := by unfold dTie; simp
theorem dTie_10 {i : Nat} : (dTie P).2.2.2 10 i = dOr (fun j => decide (j < P.1) && cW (dT8 P) P.1 j i) 32 := by unfold dTie; simp
theorem dTie_o {a i : Nat} (h : a < 8 ∨ 10 < a) : (dTie P).2.2.2 a i = P.2.2.2 a i := by
  unfold dTie
  dsimp only
  rw [if_neg (by omega), if_neg (by omega), if_neg (by omega)]
theorem dTie_D (hW : dWR P) : dWD (dTie P) := fun i hi j hj h => by rw [dTie_8] at h; exact dTd_b hW hi hj h
theorem dT8_D (hW : dWR P) : dWD (dT8 P) := fun i hi j hj h => by rw [dT8_8] at h; exact dTd_b hW hi hj h
theorem dTie_C (hW : dWR P) : dWC (dTie P) := by
  intro i hi j hj
  have hn := hW.n
  have hjn : j < P.1 := hj
  rw [dTie_9, db_dor (by omega), cW_8 (P' := dTie P) (by rw [dT8_8, dTie_8])]
  have := cW_iff (P := dTie P) (i := i) (j := j) (dTie_D hW) (by show P.1 ≤ 32; omega) hi (show j < 32 by omega)
  rw [show (decide (j < 32) && cW (dTie P) P.1 i j) = cW (dTie P) P.1 i j by simp; intro _; omega]
  exact this.trans ⟨fun z => z.2, fun z => ⟨hj, z⟩⟩
theorem dTie_H (hW : dWR P) : dWH (dTie P) := by
  intro i hi j hj
  have hn := hW.n
  have hin : i < P.1 := hi
  rw [dTie_10, dTie_9, db_dor (by omega), db_dor (by omega)]
  show _ ↔ j < P.1 ∧ _
  have h1 : decide (j < 32) = true := by simpa using hj
  have h2 : decide (i < 32) = true := by simp; omega
  rw [h1, h2]
  simp
theorem dTie_N (hW : dWR P) : dWN (dTie P) := fun i hi j hj h => by rw [dTie_o (by omega)] at h; exact hW.nd i hi j hj h
end J1
end
section
/-! the class: tied together -/
section J2
variable {P : dP} {σ τ : pxS} {p : Nat}
theorem dshl0 (x : Int32) : (0 : Int32) <<< x = 0 := by
  rw [← Int32.toBitVec_inj]
  simp
theorem cTie1 (hp : p < 2) (hn : P.1 ≤ 12) (h0 : σ (1, p, 0) 0 = dn P.1) (h1 : ∀ i, i < P.1 → σ (8, p, 1) i = P.2.2.2 1 i) (h7 : ∀ i, i < P.1 → σ (8, p, 7) i = P.2.2.2 7 i) : dw (px_it (Pl_tieTogether_L2 (dn p)) px_N (0, σ)) (fun τ => (∀ i, i < P.1 → τ (8, p, 8) i = dTd P i ∧ τ (8, p, 9) i = dTd P i ∧ τ (8, p, 10) i = 0) ∧ ∀ j, j ≠ (8, p, 8) → j ≠ (8, p, 9) → j ≠ (8, p, 10) → τ j = σ j) := by
  have np : (dn p).toNatClampNeg = p := dn_nat (by omega)
  refine dw_up P.1 (by unfold px_N; omega) (fun t s => s.1 = dn t ∧ (∀ i, i < t → s.2 (8, p, 8) i = dTd P i ∧ s.2 (8, p, 9) i = dTd P i ∧ s.2 (8, p, 10) i = 0) ∧ ∀ j, j ≠ (8, p, 8) → j ≠ (8, p, 9) → j ≠ (8, p, 10) → s.2 j = σ j) (fun t s ht hI => ?_) (fun s hI => ?_) (Nat.zero_le _) ⟨rfl, fun i hi => absurd hi (Nat.not_lt_zero _), fun _ _ _ _ => rfl⟩
  · obtain ⟨v, τ⟩ := s
    obtain ⟨rfl, i1, i2⟩ := hI
    dsimp only at i1 i2
    show dw (Pl_tieTogether_n2 τ (dn p) (dn t)) _
    have e1 : τ (1, p, 0) = σ (1, p, 0) := i2 _ (by simp) (by simp) (by simp)
    have e81 : τ (8, p, 1) = σ (8, p, 1) := i2 _ (by simp) (by simp) (by simp)
    have e87 : τ (8, p, 7) = σ (8, p, 7) := i2 _ (by simp) (by simp) (by simp)
    -- what both ways lay
    have fin : ∀ x : Int32, x = dTd P t → dw (px_gd (dn t) 12 (px_l (px_up τ (8, p, 8) (dn t).toNatClampNeg x) fun σ4 => px_gd (dn t) 12 (px_gd (dn t) 12 (px_l (px_up σ4 (8, p, 9) (dn t).toNatClampNeg (σ4 (8, p, 8) (dn t).toNatClampNeg)) fun σ7 => px_gd (dn t) 12 (px_l (px_up σ7 (8, p, 10) (dn t).toNatClampNeg 0) fun σ9 => some (.inl ((dn t + 1), σ9) : (Int32 × pxS) ⊕ pxS)))))) (dR (fun s => s.1 = dn (t + 1) ∧ (∀ i, i < t + 1 → s.2 (8, p, 8) i = dTd P i ∧ s.2 (8, p, 9) i = dTd P i ∧ s.2 (8, p, 10) i = 0) ∧ ∀ j, j ≠ (8, p, 8) → j ≠ (8, p, 9) → j ≠ (8, p, 10) → s.2 j = σ j) (fun τ => (∀ i, i < P.1 → τ (8, p, 8) i = dTd P i ∧ τ (8, p, 9) i = dTd P i ∧ τ (8, p, 10) i = 0) ∧ ∀ j, j ≠ (8, p, 8) → j ≠ (8, p, 9) → j ≠ (8, p, 10) → τ j = σ j)) := fun x hx => by
      rw [dn_nat (show t < 2147483648 by omega)]
      refine dw_gi (by omega) (by omega) (dw_l.mpr (dw_gi (by omega) (by omega) (dw_gi (by omega) (by omega) (dw_l.mpr (dw_gi (by omega) (by omega) (dw_l.mpr (dw_some.mpr ⟨dn_suc t, fun i hi => ?_, fun j j1 j2 j3 => ?_⟩)))))))
      · dsimp only
        simp only [up_8s, true_and, hx]
        by_cases e : i = t
        · simp [e]
        · simp only [e, if_false, and_false]
          simpa using i1 i (by omega)
      · dsimp only
        rw [upo j3, upo j2, upo j1]; exact i2 j j1 j2 j3
    unfold Pl_tieTogether_n2
    rw [np, e1, h0, if_neg (by rw [dn_le (by omega) (by omega)]; omega)]
    refine dw_gi (by omega) (by omega) (dw_gi (by omega) (by omega) ?_)
    have f1 : σ (8, p, 1) (dn t).toNatClampNeg = P.2.2.2 1 t := by rw [dn_nat (by omega)]; exact h1 t ht
    have f7 : σ (8, p, 7) (dn t).toNatClampNeg = P.2.2.2 7 t := by rw [dn_nat (by omega)]; exact h7 t ht
    rw [e81, f1, e87, f7]
    by_cases c : P.2.2.2 1 t < 0
    · rw [if_pos c]
      exact fin _ (by unfold dTd; rw [if_pos c])
    · rw [if_neg c]
      exact dw_gi (by omega) (by omega) (fin _ (by unfold dTd; rw [if_neg c]))
  · obtain ⟨v, τ⟩ := s
    obtain ⟨rfl, i1, i2⟩ := hI
    dsimp only at i1 i2
    show dw (Pl_tieTogether_n2 τ (dn p) (dn P.1)) _
    unfold Pl_tieTogether_n2
    rw [np, i2 _ (by simp) (by simp) (by simp), h0, if_pos (by rw [dn_le (by omega) (by omega)]; omega)]
    exact dw_some.mpr ⟨i1, i2⟩
theorem cTie2 (hp : p < 2) (hn : P.1 ≤ 12) (h0 : σ (1, p, 0) 0 = dn P.1) (h9 : ∀ i, i < P.1 → ∀ j, j < 32 → db (σ (8, p, 9) i) j = cW P 0 i j) : dw (px_it (Pl_tieTogether_L71 (dn p)) px_N (0, σ)) (fun τ => (∀ i, i < P.1 → ∀ j, j < 32 → db (τ (8, p, 9) i) j = cW P P.1 i j) ∧ ∀ j, j ≠ (8, p, 9) → τ j = σ j) := by
  have np : (dn p).toNatClampNeg = p := dn_nat (by omega)
  refine dw_up P.1 (by unfold px_N; omega) (fun t s => s.1 = dn t ∧ (∀ i, i < P.1 → ∀ j, j < 32 → db (s.2 (8, p, 9) i) j = cW P t i j) ∧ ∀ j, j ≠ (8, p, 9) → s.2 j = σ j) (fun t s ht hI => ?_) (fun s hI => ?_) (Nat.zero_le _) ⟨rfl, h9, fun _ _ => rfl⟩
  · obtain ⟨v, τ⟩ := s
    obtain ⟨rfl, i1, i2⟩ := hI
    dsimp only at i1 i2
    show dw (Pl_tieTogether_n71 τ (dn p) (dn t)) _
    unfold Pl_tieTogether_n71
    rw [np, i2 _ (by simp), h0, if_neg (by rw [dn_le (by omega) (by omega)]; omega), dw_b1]
    refine dw_mono (P := fun τ' : pxS => (∀ i, i < P.1 → ∀ j, j < 32 → db (τ' (8, p, 9) i) j = cW P (t + 1) i j) ∧ ∀ j, j ≠ (8, p, 9) → τ' j = σ j) ?_ fun τ' h => dw_some.mpr ⟨dn_suc t, h⟩
    have kk : ∀ j, cW P (t + 1) t j = cW P t t j := fun j => by
      show (cW P t t j || (cW P t t t && cW P t t j)) = _
      cases cW P t t j <;> simp
    refine dw_up P.1 (by unfold px_N; omega) (fun u s => s.1 = dn u ∧ (∀ i, i < P.1 → ∀ j, j < 32 → db (s.2 (8, p, 9) i) j = if i < u then cW P (t + 1) i j else cW P t i j) ∧ ∀ j, j ≠ (8, p, 9) → s.2 j = σ j) (fun u s hu hI => ?_) (fun s hI => ?_) (Nat.zero_le _) ⟨rfl, fun i hi j hj => by rw [if_neg (Nat.not_lt_zero _)]; exact i1 i hi j hj, i2⟩
    · obtain ⟨v, τ1⟩ := s
      obtain ⟨rfl, j1, j2⟩ := hI
      dsimp only at j1 j2
      show dw (Pl_tieTogether_n81 τ1 (dn p) (dn t) (dn u)) _
      unfold Pl_tieTogether_n81 Pl_tieTogether_n117
      rw [np, j2 _ (by simp), h0, if_neg (by rw [dn_le (by omega) (by omega)]; omega)]
      refine dw_gi (by omega) (by omega) ?_
      rw [dn_nat (show u < 2147483648 by omega)]
      have hb := j1 u hu t (by omega)
      rw [if_neg (Nat.lt_irrefl _)] at hb
      by_cases c : cW P t u t = true
      · rw [if_neg (by rw [db_sh0 (by omega), hb, c]; decide)]
        refine dw_gi (by omega) (by omega) (dw_gi (by omega) (by omega) (dw_gi (by omega) (by omega) (dw_l.mpr (dw_some.mpr ⟨dn_suc u, fun i hi j hj => ?_, fun j hj => ?_⟩))))
        · dsimp only
          rw [dn_nat (show t < 2147483648 by omega), up_8s]
          by_cases e : i = u
          · rw [if_pos ⟨rfl, e⟩, db_or, j1 u hu j hj, j1 t ht j hj, if_neg (Nat.lt_irrefl _), e, if_pos (show u < u + 1 by omega)]
            show _ = (cW P t u j || (cW P t u t && cW P t t j))
            rw [c]
            by_cases z : t < u
            · rw [if_pos z, kk]; rfl
            · rw [if_neg z]; rfl
          · rw [if_neg (fun z => e z.2), j1 i hi j hj]
            by_cases z : i < u
            · rw [if_pos z, if_pos (by omega)]
            · rw [if_neg z, if_neg (by omega)]
        · dsimp only
          rw [upo hj]; exact j2 j hj
      · rw [if_pos (by rw [db_sh0 (by omega), hb]; simpa using c)]
        refine dw_some.mpr ⟨dn_suc u, fun i hi j hj => ?_, j2⟩
        dsimp only
        rw [j1 i hi j hj]
        by_cases e : i = u
        · rw [e, if_neg (Nat.lt_irrefl _), if_pos (show u < u + 1 by omega)]
          show _ = (cW P t u j || (cW P t u t && cW P t t j))
          have : cW P t u t = false := by simpa using c
          rw [this]; simp
        · by_cases z : i < u
          · rw [if_pos z, if_pos (by omega)]
          · rw [if_neg z, if_neg (by omega)]
    · obtain ⟨v, τ1⟩ := s
      obtain ⟨rfl, j1, j2⟩ := hI
      dsimp only at j1 j2
      show dw (Pl_tieTogether_n81 τ1 (dn p) (dn t) (dn P.1)) _
      unfold Pl_tieTogether_n81
      rw [np, j2 _ (by simp), h0, if_pos (by rw [dn_le (by omega) (by omega)]; omega)]
      exact dw_some.mpr ⟨fun i hi j hj => by rw [j1 i hi j hj, if_pos hi], j2⟩
  · obtain ⟨v, τ⟩ := s
    obtain ⟨rfl, i1, i2⟩ := hI
    dsimp only at i1 i2
    show dw (Pl_tieTogether_n71 τ (dn p) (dn P.1)) _
    unfold Pl_tieTogether_n71
    rw [np, i2 _ (by simp), h0, if_pos (by rw [dn_le (by omega) (by omega)]; omega)]
    exact dw_some.mpr ⟨i1, i2⟩
theorem cTie3 (hp : p < 2) (hn : P.1 ≤ 12) {g : Nat → Int32} (h0 : σ (1, p, 0) 0 = dn P.1) (h9 : ∀ i, i < P.1 → σ (8, p, 9) i = g i) (h10 : ∀ i, i < P.1 → σ (8, p, 10) i = 0) : dw (px_it (Pl_tieTogether_L131 (dn p)) px_N (0, σ)) (fun τ => (∀ i, i < P.1 → τ (8, p, 10) i = dOr (fun j => db (g j) i) P.1) ∧ ∀ j, j ≠ (8, p, 10) → τ j = σ j) := by
  have np : (dn p).toNatClampNeg = p := dn_nat (by omega)
  refine dw_up P.1 (by unfold px_N; omega) (fun t s => s.1 = dn t ∧ (∀ i, i < P.1 → s.2 (8, p, 10) i = if i < t then dOr (fun j => db (g j) i) P.1 else 0) ∧ ∀ j, j ≠ (8, p, 10) → s.2 j = σ j) (fun t s ht hI => ?_) (fun s hI => ?_) (Nat.zero_le _) ⟨rfl, fun i hi => by rw [if_neg (Nat.not_lt_zero _)]; exact h10 i hi, fun _ _ => rfl⟩
  · obtain ⟨v, τ⟩ := s
    obtain ⟨rfl, i1, i2⟩ := hI
    dsimp only at i1 i2
    show dw (Pl_tieTogether_n131 τ (dn p) (dn t)) _
    unfold Pl_tieTogether_n131
    rw [np, i2 _ (by simp), h0, if_neg (by rw [dn_le (by omega) (by omega)]; omega), dw_b1]
    refine dw_mono (P := fun τ' : pxS => (∀ i, i < P.1 → τ' (8, p, 10) i = if i < t + 1 then dOr (fun j => db (g j) i) P.1 else 0) ∧ ∀ j, j ≠ (8, p, 10) → τ' j = σ j) ?_ fun τ' h => dw_some.mpr ⟨dn_suc t, h⟩
    refine dw_up P.1 (by unfold px_N; omega) (fun u s => s.1 = dn u ∧ (∀ i, i < P.1 → s.2 (8, p, 10) i = if i < t then dOr (fun j => db (g j) i) P.1 else if i = t then dOr (fun j => db (g j) i) u else 0) ∧ ∀ j, j ≠ (8, p, 10) → s.2 j = σ j) (fun u s hu hI => ?_) (fun s hI => ?_) (Nat.zero_le _) ⟨rfl, fun i hi => ?_, i2⟩
    · obtain ⟨v, τ1⟩ := s
      obtain ⟨rfl, j1, j2⟩ := hI
      dsimp only at j1 j2
      show dw (Pl_tieTogether_n141 τ1 (dn p) (dn t) (dn u)) _
      unfold Pl_tieTogether_n141
      rw [np, j2 _ (by simp), h0, if_neg (by rw [dn_le (by omega) (by omega)]; omega)]
      refine dw_gi (by omega) (by omega) (dw_gi (by omega) (by omega) (dw_gi (by omega) (by omega) (dw_l.mpr (dw_some.mpr ⟨dn_suc u, fun i hi => ?_, fun j hj => ?_⟩))))
      · dsimp only
        rw [dn_nat (show t < 2147483648 by omega), dn_nat (show u < 2147483648 by omega), up_8s, j2 (8, p, 9) (by simp), h9 u hu, db_sh (by omega)]
        by_cases e : i = t
        · subst e
          rw [if_pos ⟨rfl, rfl⟩, j1 i ht, if_neg (Nat.lt_irrefl _), if_pos rfl, if_neg (Nat.lt_irrefl _), if_pos rfl]
          show _ = (if db (g u) i = true then dOr (fun j => db (g j) i) u ||| (1 <<< (dn u &&& 31)) else dOr (fun j => db (g j) i) u)
          by_cases c : db (g u) i = true
          · rw [if_pos c, if_pos c]
          · rw [if_neg c, if_neg c, dshl0]
            apply db_ext
            intro k hk
            rw [db_or, db_zero, Bool.or_false]
        · rw [if_neg (fun z => e z.2), j1 i hi, if_neg e, if_neg e]
      · dsimp only
        rw [upo hj]; exact j2 j hj
    · obtain ⟨v, τ1⟩ := s
      obtain ⟨rfl, j1, j2⟩ := hI
      dsimp only at j1 j2
      show dw (Pl_tieTogether_n141 τ1 (dn p) (dn t) (dn P.1)) _
      unfold Pl_tieTogether_n141
      rw [np, j2 _ (by simp), h0, if_pos (by rw [dn_le (by omega) (by omega)]; omega)]
      refine dw_some.mpr ⟨fun i hi => ?_, j2⟩
      rw [j1 i hi]
      by_cases z : i < t
      · rw [if_pos z, if_pos (by omega)]
      · rw [if_neg z]
        by_cases e : i = t
        · rw [if_pos e, if_pos (by omega)]
        · rw [if_neg e, if_neg (by omega)]
    · dsimp only
      rw [i1 i hi]
      by_cases z : i < t
      · rw [if_pos z, if_pos z]
      · rw [if_neg z, if_neg z]
        by_cases e : i = t
        · rw [if_pos e]; rfl
        · rw [if_neg e]
  · obtain ⟨v, τ⟩ := s
    obtain ⟨rfl, i1, i2⟩ := hI
    dsimp only at i1 i2
    show dw (Pl_tieTogether_n131 τ (dn p) (dn P.1)) _
    unfold Pl_tieTogether_n131
    rw [np, i2 _ (by simp), h0, if_pos (by rw [dn_le (by omega) (by omega)]; omega)]
    exact dw_some.mpr ⟨fun i hi => by rw [i1 i hi, if_pos hi], i2⟩
theorem cTie (hp : p < 2) (hn : P.1 ≤ 12) (h0 : σ (1, p, 0) 0 = dn P.1) (h1 : ∀ i, i < P.1 → σ (8, p, 1) i = P.2.2.2 1 i) (h7 : ∀ i, i < P.1 → σ (8, p, 7) i = P.2.2.2 7 i) : dw (F_Pl_tieTogether σ (dn p)) (fun τ => (∀ i, i < P.1 → τ (8, p, 8) i = (dTie P).2.2.2 8 i ∧ τ (8, p, 9) i = (dTie P).2.2.2 9 i ∧ τ (8, p, 10) i = (dTie P).2.2.2 10 i) ∧ ∀ j, j ≠ (8, p, 8) → j ≠ (8, p, 9) → j ≠ (8, p, 10) → τ j = σ j) := by
  unfold F_Pl_tieTogether
  rw [dw_b1]
  refine dw_mono (cTie1 hp hn h0 h1 h7) fun τ1 ⟨g1, g2⟩ => ?_
  rw [dw_b1]
  refine dw_mono (cTie2 (P := dT8 P) hp hn (by rw [g2 _ (by simp) (by simp) (by simp)]; exact h0) (fun i hi j hj => by
    rw [(g1 i hi).2.1]
    show _ = db ((dT8 P).2.2.2 8 i) j
    rw [dT8_8])) fun τ2 ⟨f1, f2⟩ => ?_
  have e9 : ∀ i, i < P.1 → τ2 (8, p, 9) i = (dTie P).2.2.2 9 i := fun i hi => by
    apply db_ext
    intro j hj
    rw [f1 i hi j hj, dTie_9, db_dor (by omega)]
    simp [hj]
    rfl
  rw [dw_b1]
  refine dw_mono (cTie3 (g := (dTie P).2.2.2 9) hp hn (by rw [f2 _ (by simp), g2 _ (by simp) (by simp) (by simp)]; exact h0) e9 (fun i hi => by rw [f2 _ (by simp)]; exact (g1 i hi).2.2)) fun τ3 ⟨q1, q2⟩ => dw_some.mpr ⟨fun i hi => ⟨?_, ?_, ?_⟩, fun j j1 j2 j3 => ?_⟩
  · rw [q2 _ (by simp), f2 _ (by simp), (g1 i hi).1, dTie_8]
  · rw [q2 _ (by simp)]; exact e9 i hi
  · rw [q1 i hi, dTie_10]
    apply db_ext
    intro j hj
    rw [db_dor (by omega), db_dor (by omega), dTie_9, db_dor (by omega)]
    simp [hj, show i < 32 by omega]
  · rw [q2 j j3, f2 j j2, g2 j j1 j2 j3]
end J2
end
