section
theorem dSq_x {P : dP} (k : Nat) (B : dB) (hm : ¬ B.2.2.2.2.2.1 = 1) : dSq P k B = B := by
  cases k with
  | zero => rfl
  | succ k => rw [dSq, if_neg hm]
section E10
variable {α : Type} {μ : pxS} {P : dP} {B B1 B2 : dB} {Q : α → Prop}
theorem dU_sq {L : Nat} (h : dM μ P B) (hP : dWP P) (hS : dWS P) (hH : dWH P) (hB : dSV P L B) (hL : L < 800000) : dU μ P (F_Mo_sequenceGoes μ) (dSq P 25 B) := by
  have hn := hP.n
  have hst := hP.st
  have hm4 := hB.m
  unfold F_Mo_sequenceGoes
  rw [h.s.mode]
  by_cases c : B.2.2.2.2.2.1 = 1
  · rw [if_pos (by rw [c]; rfl), dU, dw_b1]
    refine dw_mono (P := fun e : Nat × pxS => (e.1 = 0 ∧ ∃ B1, dM e.2 P B1 ∧ dSV P L B1 ∧ (dB.wr (B1.1, B1.2.1, B1.2.2.1, B1.2.2.2.1, B1.2.2.2.2.1, 2, B1.2.2.2.2.2.2.1, B1.2.2.2.2.2.2.2.1, B1.2.2.2.2.2.2.2.2)) (-2) 6 = dSq P 25 B ∧ dG μ e.2) ∨ (¬ e.1 = 0 ∧ dM e.2 P (dSq P 25 B) ∧ dG μ e.2)) ?_ fun e he => ?_
    · refine dw_it (fun k s => s.1 = 1 ∧ ∃ B1, dM s.2 P B1 ∧ dG μ s.2 ∧ dSV P L B1 ∧ B1.2.2.2.2.2.1 = 1 ∧ P.2.2.1 + 1 ≤ B1.2.2.2.2.2.2.1 + k ∧ dSq P k B1 = dSq P 25 B) (fun k s hI => ?_) px_N 25 (1, μ) (by unfold px_N; omega) ⟨rfl, B, h, dG_refl μ, hB, c, by omega, rfl⟩
      obtain ⟨v, τ⟩ := s
      obtain ⟨rfl, B1, h1, h2, h3, h4, h5, h6⟩ := hI
      dsimp only at h1 h2
      have hs3 := h3.s
      have hl3 := h3.l
      have hy3 := h3.y
      show dw (Mo_sequenceGoes_n18 τ 1) _
      unfold Mo_sequenceGoes_n18
      rw [if_neg (by decide), h1.s.step, h1.P.st]
      obtain ⟨k, rfl⟩ : ∃ j, k = j + 1 := ⟨k - 1, by omega⟩
      rw [dSq, if_pos h4] at h6
      by_cases c1 : B1.2.2.2.2.2.2.1 < P.2.2.1
      · rw [if_pos c1] at h6
        rw [if_neg (by rw [dn_inj (by omega) (by omega)]; omega), dw_b2]
        refine dw_mono (dU_stp h1 hP hS hH h3.b c1 h4 h3.y h3.z (by omega)) fun r hr => ?_
        obtain ⟨e1, g1, f1⟩ := hr
        obtain ⟨n1, n2, n3, n4, n5, n6⟩ := dStp_n (P := P) (B := B1)
        have hstep : (dStp P B1).2.2.2.2.2.2.2.1 = B1.2.2.2.2.2.2.1 := n3
        rw [e1]
        cases e : (dStp P B1).1 with
        | false =>
          have e' : dStp P B1 = (false, (dStp P B1).2) := by rw [← e]
          rw [e'] at h6
          dsimp only at h6
          rw [if_pos (by rfl)]
          simp only [dw_some, dR_r]
          refine Or.inr ⟨by decide, ?_, dG_trans h2 f1⟩
          rw [← h6]; exact g1
        | true =>
          have e' : dStp P B1 = (true, (dStp P B1).2) := by rw [← e]
          rw [e'] at h6
          dsimp only at h6
          have hv := dSV_next hS hn h3 h4 c1 e
          have hWs := dWB_stp hS hn h3.b c1
          rw [if_neg (by decide), g1.s.step, dn_suc]
          refine du_bd (((dStp P B1).2).1, ((dStp P B1).2).2.1, ((dStp P B1).2).2.2.1, ((dStp P B1).2).2.2.2.1, ((dStp P B1).2).2.2.2.2.1, ((dStp P B1).2).2.2.2.2.2.1, (dStp P B1).2.2.2.2.2.2.2.1 + 1, ((dStp P B1).2).2.2.2.2.2.2.2.1, ((dStp P B1).2).2.2.2.2.2.2.2.2) g1 hWs hn (by omega) ⟨rfl, rfl, rfl, rfl⟩ rfl rfl rfl rfl rfl fun τ1 g2 f2 => ?_
          refine du_bd (((dStp P B1).2).1, ((dStp P B1).2).2.1, ((dStp P B1).2).2.2.1, ((dStp P B1).2).2.2.2.1, ((dStp P B1).2).2.2.2.2.1, ((dStp P B1).2).2.2.2.2.2.1, (dStp P B1).2.2.2.2.2.2.2.1 + 1, 0, ((dStp P B1).2).2.2.2.2.2.2.2.2) g2 (dWB_md hWs rfl rfl rfl) hn (by omega) ⟨rfl, rfl, rfl, rfl⟩ rfl rfl rfl rfl rfl fun τ2 g3 f3 => ?_
          simp only [dw_some, dR_l]
          exact ⟨k, by omega, rfl, _, g3, dG_trans h2 (dG_trans f1 (dG_trans f2 f3)), hv, (n6 e).1.trans h4, by show P.2.2.1 + 1 ≤ (dStp P B1).2.2.2.2.2.2.2.1 + 1 + k; omega, h6⟩
      · rw [if_neg c1, dSq_x _ _ (by show ¬ (2 : Nat) = 1; omega)] at h6
        rw [if_pos (by rw [dn_inj (by omega) (by omega)]; omega)]
        simp only [dw_some, dR_r]
        exact Or.inl ⟨trivial, B1, h1, h3, h6, h2⟩
    · obtain ⟨a, τ⟩ := e
      rcases he with ⟨e0, B1, h1, h3, h6, h2⟩ | ⟨e0, h1, h2⟩
      · dsimp only at e0 h1 h2 ⊢
        have hwl := dL_len h3.b.w
        have hrl := dL_len h3.b.r
        have hl3 := h3.l
        rw [if_pos e0]
        refine du_bd (B1.1, B1.2.1, B1.2.2.1, B1.2.2.2.1, B1.2.2.2.2.1, 2, B1.2.2.2.2.2.2.1, B1.2.2.2.2.2.2.2.1, B1.2.2.2.2.2.2.2.2) h1 h3.b hn (by omega) ⟨rfl, rfl, rfl, rfl⟩ rfl rfl rfl rfl rfl fun τ1 g2 f2 => ?_
        refine du_T (dU_logs g2 hn (by show B1.2.2.2.2.2.2.2.2.length < _; omega) (by show B1.2.1.length ≤ 12; omega) (by show B1.2.2.1.length ≤ 12; omega)) fun τ2 g3 f3 => ?_
        rw [h6] at g3
        exact dw_some.mpr ⟨g3, dG_trans h2 (dG_trans f2 f3)⟩
      · dsimp only at e0 h1 h2 ⊢
        rw [if_neg e0]
        refine dw_ite (fun _ => dw_some.mpr ⟨h1, h2⟩) (fun _ => dw_some.mpr ⟨h1, h2⟩)
  · rw [if_neg (by rw [show (1 : Int32) = dn 1 from rfl, dn_inj (by omega) (by omega)]; exact c), dSq_x _ _ c, dU, dw_b1]
    have e0 : px_it Mo_sequenceGoes_L18 px_N (0, μ) = some (2, μ) := by
      rw [show px_N = 99999 + 1 from rfl, px_it]
      rfl
    rw [e0]
    exact dw_some.mpr (dw_some.mpr ⟨h, dG_refl μ⟩)
end E10
end
section
/-- needs are rails -/
def dWN (P : dP) : Prop := ∀ i, i < P.1 → ∀ j, j < 32 → db (P.2.2.2 7 i) j = true → j < P.1
section E11
variable {α : Type} {μ : pxS} {P : dP} {B B1 B2 : dB} {Q : α → Prop}
theorem dNeed {i : Nat} (hn : P.1 ≤ 12) (hN : dWN P) (hi : i < P.1) : (P.2.2.2 7 i &&& (dGm P B P.1 ^^^ (-1)) = 0) ↔ ∀ o, o < P.1 → db (P.2.2.2 7 i) o = true → B.gd P o := by
  constructor
  · intro h o ho hb
    have := congrArg (fun x => db x o) h
    simp only [db_and, db_zero, db_not (show o < 32 by omega), hb, db_gm (show P.1 ≤ 32 by omega)] at this
    simp at this
    exact ⟨this.2.1, Int32.not_lt.mpr this.2.2⟩
  · intro h
    apply db_ext
    intro o ho
    rw [db_and, db_zero, db_not ho, db_gm (by omega)]
    cases e : db (P.2.2.2 7 i) o with
    | false => rfl
    | true =>
      have h1 := hN i hi o ho e
      simp [h1, h o h1 e]
theorem dM_why {i : Nat} (h : dM μ P B) (hn : P.1 ≤ 12) (hV : dWV P) (hN : dWN P) (hi : i < P.1) : F_Mo_whyNot μ (dn i) = some (dHd P (dGm P B P.1) i) := by
  have k26 : Mo_whyNot_n26 μ (dn i) = some (if P.2.2.2 7 i &&& (dGm P B P.1 ^^^ (-1)) = 0 then 0 else 2) := by
    suffices hh : dw (Mo_whyNot_n26 μ (dn i)) (fun r => r = (if P.2.2.2 7 i &&& (dGm P B P.1 ^^^ (-1)) = 0 then 0 else 2)) by
      obtain ⟨a, e, rfl⟩ := hh; exact e
    unfold Mo_whyNot_n26
    rw [dw_b1]
    refine dw_up P.1 (by unfold px_N; omega) (fun t s => s = dn t ∧ ∀ o, o < t → db (P.2.2.2 7 i) o = true → B.gd P o) (fun t s ht hI => ?_) (fun s hI => ?_) (Nat.zero_le _) ⟨rfl, fun o ho => by omega⟩
    · obtain ⟨rfl, hg⟩ := hI
      show dw (Mo_whyNot_n28 μ (dn i) (dn t)) _
      unfold Mo_whyNot_n28 Mo_whyNot_n60
      refine dw_v (dM_n h) ?_
      rw [if_neg (by rw [dn_le (by omega) (by omega)]; omega)]
      refine dw_gi (by omega) (by omega) ?_
      rw [dn_nat (by omega), h.P.a 7 (by omega) i hi]
      refine dw_ite (fun c => ?_) (fun c => ?_)
      · rw [db_sh1 (by omega)] at c
        refine dw_v (dM_gd h hn ht) ?_
        by_cases c2 : B.gd P t
        · rw [if_pos c2, if_neg (by decide)]
          simp only [dw_some, dR_l]
          refine ⟨dn_suc t, fun o ho hb => ?_⟩
          by_cases e : o = t
          · rw [e]; exact c2
          · exact hg o (by omega) hb
        · rw [if_neg c2, if_pos rfl]
          simp only [dw_some, dR_r]
          rw [if_pos trivial]
          rw [dw_some, if_neg (fun z => c2 ((dNeed hn hN hi).mp z t ht c))]
      · rw [db_sh1 (by omega)] at c
        simp only [dw_some, dR_l]
        refine ⟨dn_suc t, fun o ho hb => ?_⟩
        by_cases e : o = t
        · rw [e] at hb; exact absurd hb c
        · exact hg o (by omega) hb
    · obtain ⟨rfl, hg⟩ := hI
      show dw (Mo_whyNot_n28 μ (dn i) (dn P.1)) _
      unfold Mo_whyNot_n28
      refine dw_v (dM_n h) ?_
      rw [if_pos (by rw [dn_le (by omega) (by omega)]; omega)]
      simp only [dw_some, dR_r]
      rw [if_neg (by decide), dw_some, if_pos ((dNeed hn hN hi).mpr hg)]
  unfold F_Mo_whyNot px_gd
  rw [if_pos ⟨dn_nn (by omega), by rw [dn_nat (by omega)]; omega⟩, dn_nat (by omega), h.P.a 1 (by omega) i hi]
  unfold dHd
  rcases hV.pr i hi with e | ⟨j, hj, e⟩
  · rw [e, if_pos rfl, if_pos (by decide)]
    exact k26
  · have hj2 : ¬ dn j = -2 := fun z => by
      have := congrArg Int32.toInt z
      rw [dn_toInt (by omega)] at this
      have e2 : (-2 : Int32).toInt = -2 := by decide
      rw [e2] at this
      omega
    rw [e, if_neg hj2, if_neg (dn_nn (by omega)), if_pos ⟨dn_nn (by omega), by omega⟩, dM_gd h hn (by omega)]
    unfold px_b1
    dsimp only
    have hb : ((dGm P B P.1 >>> (dn j &&& 31)) &&& 1 = 0) ↔ ¬ B.gd P j := by
      rw [db_sh0 (by omega), db_gm (by omega)]
      simp
      exact Or.inl (by omega)
    by_cases c : B.gd P j
    · rw [if_pos c, if_neg (by decide), if_neg (fun z => hb.mp z c)]
      exact k26
    · rw [if_neg c, if_pos rfl, if_pos (hb.mpr c)]
theorem dRs_f (P : dP) (G : Int32) : ∀ (l : List Nat) (B : dB), dRs P G l B = (l.filter fun i => dHd P G i = 0).foldl dB.rs B := by
  intro l
  induction l with
  | nil => intro B; rfl
  | cons i l ih =>
    intro B
    rw [dRs, ih, List.filter_cons]
    by_cases c : dHd P G i = 0
    · rw [if_pos c, if_pos (by simpa using c)]; rfl
    · rw [if_neg c, if_neg (by simpa using c)]
end E11
end
section
/-- what a tick of the reference may touch -/
def dG3 (μ μ' : pxS) : Prop := ∀ j, j ≠ (1, 28, 0) → j ≠ (1, 34, 0) → j ≠ (1, 35, 0) → μ' j = μ j
theorem dG3_refl (μ : pxS) : dG3 μ μ := fun _ _ _ _ => rfl
theorem dG3_trans {μ μ' μ'' : pxS} (h : dG3 μ μ') (h' : dG3 μ' μ'') : dG3 μ μ'' := fun j a b c => (h' j a b c).trans (h j a b c)
theorem dG3_of {μ μ' : pxS} (h : dG μ μ') : dG3 μ μ' := fun j a _ _ => h j a
theorem dMP_G3 {μ μ' : pxS} {P : dP} (hG : dG3 μ μ') (h : dMP μ P) : dMP μ' P := by
  have e : ∀ a, a ≠ 28 → a ≠ 34 → a ≠ 35 → μ' (1, a, 0) = μ (1, a, 0) := fun a h1 h2 h3 => hG _ (by simp [h1]) (by simp [h2]) (by simp [h3])
  have e3 := e 3 (by omega) (by omega) (by omega)
  exact ⟨by rw [e3]; exact h.n, by rw [e3]; exact h.m, by rw [e3]; exact h.st, by rw [e3]; exact h.droop, by rw [e3]; exact h.fall, by rw [e3]; exact h.low, by rw [e3]; exact h.budget, by rw [e3]; exact h.seed, by rw [e3]; exact h.filter, by rw [e3]; exact h.times, by rw [e3]; exact h.hold, fun a ha i hi => by rw [e _ (by omega) (by omega) (by omega)]; exact h.a a ha i hi, fun i hi => by rw [e _ (by omega) (by omega) (by omega)]; exact h.dir i hi, fun i hi => by rw [e _ (by omega) (by omega) (by omega)]; exact h.hang i hi, fun a h1 h2 i hi => by rw [e _ (by omega) (by omega) (by omega)]; exact h.s a h1 h2 i hi⟩
section E12
variable {α : Type} {μ : pxS} {P : dP} {B B1 B2 : dB} {Q : α → Prop}
set_option maxHeartbeats 4000000 in
theorem dU_br {L : Nat} (h : dM μ P B) (hP : dWP P) (hV : dWV P) (hN : dWN P) (hB : dSV P L B) (hL : L < 800000) : dw (F_Mo_beginsToRise μ) (fun τ => dM τ P (dBR P B) ∧ dG3 μ τ) := by
  have hn := hP.n
  have hwl := dL_len hB.b.w
  have hrl := dL_len hB.b.r
  unfold F_Mo_beginsToRise dBR
  rw [dRs_f]
  have hG : ∀ i, i < P.1 → ∀ τ, dM τ P B → F_Mo_whyNot τ (dn i) = some (dHd P (dGm P B P.1) i) := fun i hi τ hτ => dM_why hτ hn hV hN hi
  generalize dGm P B P.1 = G at hG ⊢
  rw [dw_b1]
  refine dw_mono (P := fun e : Int32 × pxS => e.1 = dn (B.2.1.filter fun i => dHd P G i = 0).length ∧ (∀ a (ha : a < (B.2.1.filter fun i => dHd P G i = 0).length), e.2 (1, 35, 0) a = dn (B.2.1.filter fun i => dHd P G i = 0)[a]) ∧ dM e.2 P B ∧ dG3 μ e.2) ?_ fun e he => ?_
  · refine dw_up B.2.1.length (by unfold px_N; omega) (fun t s => s.1 = dn ((B.2.1.take t).filter fun i => dHd P G i = 0).length ∧ s.2.1 = dn t ∧ (∀ a (ha : a < ((B.2.1.take t).filter fun i => dHd P G i = 0).length), s.2.2 (1, 35, 0) a = dn ((B.2.1.take t).filter fun i => dHd P G i = 0)[a]) ∧ dM s.2.2 P B ∧ dG3 μ s.2.2) (fun t s ht hI => ?_) (fun s hI => ?_) (Nat.zero_le _) ⟨rfl, rfl, fun a ha => absurd ha (by simp), h, dG3_refl μ⟩
    · obtain ⟨v1, v2, τ⟩ := s
      obtain ⟨rfl, rfl, h1, h2, h3⟩ := hI
      dsimp only at h1 h2 h3
      have hfl : ((B.2.1.take t).filter fun i => dHd P G i = 0).length ≤ t := Nat.le_trans (List.length_filter_le _ _) (by simp; omega)
      have hti := hB.b.w.2 _ (List.getElem_mem ht)
      have et : (B.2.1.take (t + 1)).filter (fun i => dHd P G i = 0) = (B.2.1.take t).filter (fun i => dHd P G i = 0) ++ if dHd P G B.2.1[t] = 0 then [B.2.1[t]] else [] := by
        rw [← List.take_append_getElem ht, List.filter_append]
        by_cases c : dHd P G B.2.1[t] = 0
        · simp [c]
        · simp [c]
      show dw (Mo_beginsToRise_n4 τ _ _) _
      unfold Mo_beginsToRise_n4 Mo_beginsToRise_n55
      rw [h2.s.wl, if_neg (by rw [dn_le (by omega) (by omega)]; omega), show (157 : Int32) + dn t = dn (157 + t) from dn_add 157 t]
      refine dw_gi (by omega) (by omega) ?_
      rw [dn_nat (by omega), h2.s.wi t ht]
      refine dw_v (hG _ hti τ h2) ?_
      by_cases c : dHd P G B.2.1[t] = 0
      · rw [if_pos c]
        rw [if_pos c] at et
        refine dw_gi (by omega) (by omega) (dw_gi (by omega) (by omega) ?_)
        rw [dn_nat (by omega)]
        simp only [dw_l, dw_some, dR_l]
        have e28 : ∀ (v : Int32) (q : Nat), px_up τ (1, 35, 0) q v (1, 28, 0) = τ (1, 28, 0) := fun v q => by funext x; simp [px_up]
        have hg : ∀ (v : Int32) (q : Nat), dG3 τ (px_up τ (1, 35, 0) q v) := fun v q j _ _ h35 => by funext x; simp [px_up, h35]
        refine ⟨?_, dn_suc t, fun a ha => ?_, ⟨by rw [e28]; exact h2.s, dMP_G3 (hg _ _) h2.P⟩, dG3_trans h3 (hg _ _)⟩
        · rw [et, List.length_append]; exact dn_suc _
        · rw [px_up_du]
          by_cases ea : a = ((B.2.1.take t).filter fun i => dHd P G i = 0).length
          · subst ea
            rw [du_eq]
            simp [et]
          · have hl3 : a < ((B.2.1.take t).filter fun i => dHd P G i = 0).length := by
              rw [et, List.length_append] at ha
              simp only [List.length_cons, List.length_nil] at ha; omega
            simp only [et]
            rw [List.getElem_append_left hl3, du_ne ea]
            exact h1 a hl3
      · rw [if_neg c]
        rw [if_neg c, List.append_nil] at et
        simp only [dw_some, dR_l, et]
        exact ⟨trivial, dn_suc t, h1, h2, h3⟩
    · obtain ⟨v1, v2, τ⟩ := s
      obtain ⟨rfl, rfl, h1, h2, h3⟩ := hI
      dsimp only at h1 h2 h3
      show dw (Mo_beginsToRise_n4 τ _ _) _
      unfold Mo_beginsToRise_n4
      rw [h2.s.wl, if_pos (by rw [dn_le (by omega) (by omega)]; omega)]
      rw [List.take_length] at *
      simp only [dw_some, dR_r]
      exact ⟨trivial, h1, h2, h3⟩
  · obtain ⟨v, τ⟩ := e
    obtain ⟨rfl, h1, h2, h3⟩ := he
    dsimp only at h1 h2 h3
    have hsub : ∀ i ∈ B.2.1.filter (fun i => dHd P G i = 0), i < P.1 ∧ B.1 i 2 = 1 := fun i hi => by
      have hi := (List.mem_filter.mp hi).1
      have hin := hB.b.w.2 i hi
      exact ⟨hin, (hB.b.ws i hin).mpr hi⟩
    have hnd : (B.2.1.filter fun i => dHd P G i = 0).Nodup := hB.b.w.1.filter _
    have hll : (B.2.1.filter fun i => dHd P G i = 0).length ≤ 12 := Nat.le_trans (List.length_filter_le _ _) (by omega)
    generalize B.2.1.filter (fun i => dHd P G i = 0) = l at h1 hsub hnd hll
    rw [dw_b1]
    refine dw_mono (P := fun τ' => dM τ' P (l.foldl dB.rs B) ∧ dG3 μ τ') ?_ fun τ' h' => dw_some.mpr h'
    refine dw_up l.length (by unfold px_N; omega) (fun t s => s.1 = dn t ∧ ∃ B1, dM s.2 P B1 ∧ dSV P (L + t) B1 ∧ dG τ s.2 ∧ (∀ i ∈ l.drop t, i < P.1 ∧ B1.1 i 2 = 1) ∧ (l.drop t).foldl dB.rs B1 = l.foldl dB.rs B) (fun t s ht hI => ?_) (fun s hI => ?_) (Nat.zero_le _) ⟨rfl, B, h2, hB, dG_refl τ, hsub, rfl⟩
    · obtain ⟨v, ρ⟩ := s
      obtain ⟨rfl, B1, g1, g2, g3, g4, g5⟩ := hI
      dsimp only at g1 g3
      have hl1 := g2.l
      have hw1 := dL_len g2.b.w
      have hr1 := dL_len g2.b.r
      have ed : l.drop t = l[t] :: l.drop (t + 1) := List.drop_eq_getElem_cons ht
      rw [ed] at g4 g5
      obtain ⟨gi, gs⟩ := g4 l[t] List.mem_cons_self
      have e35 : ρ (1, 35, 0) t = dn l[t] := by
        rw [g3 _ (by simp [dmk])]
        exact h1 t ht
      show dw (Mo_beginsToRise_n63 ρ _ _) _
      unfold Mo_beginsToRise_n63
      rw [if_neg (by rw [dn_le (by omega) (by omega)]; omega)]
      refine dw_gi (by omega) (by omega) ?_
      rw [dn_nat (by omega), e35, show 13 * dn l[t] + 4 = dn (13 * l[t] + 4) from ix _ 4]
      refine du_T (dU_wdrop g1 hn g2.b.w (by omega) gi) fun ρ1 k1 m1 => ?_
      refine du_T (dU_state k1 hn gi) fun ρ2 k2 m2 => ?_
      rw [k2.s.tick]
      refine du_st (8, 4) k2 hn gi (by decide) rfl fun ρ3 k3 m3 => ?_
      refine du_T (dU_logs k3 hn (by show B1.2.2.2.2.2.2.2.2.length < _; omega) (by show (dDrop B1.2.1 _).length ≤ 12; exact Nat.le_trans (List.length_filter_le _ _) (by omega)) (by show B1.2.2.1.length ≤ 12; omega)) fun ρ4 k4 m4 => ?_
      simp only [dw_some, dR_l]
      refine ⟨dn_suc t, B1.rs l[t], k4, ⟨dWB_rs g2.b gs, g2.s, by show B1.2.2.2.2.2.2.2.2.length + 1 ≤ _; omega, g2.m, g2.y, g2.z⟩, dG_trans g3 (dG_trans m1 (dG_trans m2 (dG_trans m3 m4))), fun j hj => ?_, g5⟩
      have hj2 := g4 j (List.mem_cons_of_mem _ hj)
      have hne : j ≠ l[t] := fun e => by
        have hd : (l.drop t).Nodup := hnd.sublist (List.drop_sublist t l)
        rw [ed] at hd
        exact (List.nodup_cons.mp hd).1 (e ▸ hj)
      refine ⟨hj2.1, ?_⟩
      show ((((dB.st (B1.1, dDrop B1.2.1 l[t], B1.2.2.1, B1.2.2.2.1, B1.2.2.2.2.1, B1.2.2.2.2.2.1, B1.2.2.2.2.2.2.1, B1.2.2.2.2.2.2.2.1, B1.2.2.2.2.2.2.2.2)) l[t] 2 2).st l[t] 8 (dn B1.2.2.2.1))).1 j 2 = _
      rw [dB.st_ne (Or.inl hne), dB.st_ne (Or.inl hne)]
      exact hj2.2
    · obtain ⟨v, ρ⟩ := s
      obtain ⟨rfl, B1, g1, g2, g3, g4, g5⟩ := hI
      dsimp only at g1 g3
      show dw (Mo_beginsToRise_n63 ρ _ _) _
      unfold Mo_beginsToRise_n63
      rw [if_pos (by rw [dn_le (by omega) (by omega)]; omega)]
      simp only [dw_some, dR_r]
      rw [List.drop_length] at g5
      have g5 : B1 = l.foldl dB.rs B := g5
      rw [← g5]
      exact ⟨g1, dG3_trans h3 (dG3_of g3)⟩
end E12
end
section
section E13
variable {α : Type} {μ : pxS} {P : dP} {B B1 B2 : dB} {Q : α → Prop}
/-- out of the row of those that are unwound -/
theorem dM_outr {i : Nat} {τ : pxS} (h : dM μ P B) (hB : dWB P B) (hn : P.1 ≤ 12) (h1 : dLs (τ (1, 28, 0)) 169 (dDrop B.2.2.1 i)) (h2 : ∀ x, ¬ (169 ≤ x ∧ x ≤ 169 + 12) → τ (1, 28, 0) x = du (μ (1, 28, 0)) (13 * i + 8) 0 x) (hi : i < P.1) (h3 : dG μ τ) : dM τ P (B.1, B.2.1, dDrop B.2.2.1 i, B.2.2.2.1, B.2.2.2.2.1, B.2.2.2.2.2.1, B.2.2.2.2.2.2.1, B.2.2.2.2.2.2.2.1, B.2.2.2.2.2.2.2.2) := by
  have hs := h.s
  have hw := dL_len hB.w
  have big : ∀ x, 156 ≤ x → ¬ (169 ≤ x ∧ x ≤ 169 + 12) → τ (1, 28, 0) x = μ (1, 28, 0) x := fun x hx hx2 => by
    rw [h2 x hx2, du_ne (by omega)]
  refine ⟨⟨fun j hj a ha => ?_, fun j hj => ?_, fun j hj => ?_, by rw [big _ (by omega) (by omega)]; exact hs.wl, fun t ht => by have ht' : t < B.2.1.length := ht; rw [big _ (by omega) (by omega)]; exact hs.wi t ht, h1.1, h1.2, by rw [big _ (by omega) (by omega)]; exact hs.tick, by rw [big _ (by omega) (by omega)]; exact hs.mode, by rw [big _ (by omega) (by omega)]; exact hs.step, by rw [big _ (by omega) (by omega)]; exact hs.stay, by rw [big _ (by omega) (by omega)]; exact hs.total, by rw [big _ (by omega) (by omega)]; exact hs.lc, fun t ht h4 => by rw [big _ (by omega) (by omega), big _ (by omega) (by omega), big _ (by omega) (by omega)]; exact hs.lg t ht h4⟩, dMP_G h3 h.P⟩
  · obtain ⟨l1, l2, l3, l4⟩ := dfl_lt a ha
    rw [h2 _ (by omega), du_ne (by omega)]
    exact hs.f j hj a ha
  · rw [h2 _ (by omega)]
    by_cases e : j = i
    · subst e; rw [du_eq, if_neg (by simp [dDrop])]
    · rw [du_ne (by omega), hs.ro j hj]
      by_cases c : j ∈ B.2.2.1
      · rw [if_pos c, if_pos (by simp [dDrop, c, e])]
      · rw [if_neg c, if_neg (by simp [dDrop, c])]
  · rw [h2 _ (by omega), du_ne (by omega), hs.ag j hj]
theorem dU_outr {i : Nat} {f : pxS → Option α} (h : dM μ P B) (hB : dWB P B) (hn : P.1 ≤ 12) (hi : i < P.1) (hf : ∀ μ1, dM μ1 P (B.1, B.2.1, dDrop B.2.2.1 i, B.2.2.2.1, B.2.2.2.2.1, B.2.2.2.2.2.1, B.2.2.2.2.2.2.1, B.2.2.2.2.2.2.2.1, B.2.2.2.2.2.2.2.2) → dG μ μ1 → dw (f μ1) Q) : dw (px_b1 (F_Mo_goesOut μ 169 (dn i)) fun σ1 => px_gd (dn (13 * i + 8)) 308 (px_l (px_up σ1 (1, 28, 0) (dn (13 * i + 8)).toNatClampNeg 0) f)) Q := by
  rw [dw_b1]
  refine dw_mono (dU_goes (b := 169) ⟨h.s.rl, h.s.ri⟩ hB.r hn (by omega) (by omega)) fun τ ⟨g1, g2, g3⟩ => ?_
  rw [dw_gd, dn_nat (by omega), dw_l]
  have hg : dG μ (px_up τ (1, 28, 0) (13 * i + 8) 0) := dG_trans g3 (dG_up rfl)
  have hrow : px_up τ (1, 28, 0) (13 * i + 8) 0 (1, 28, 0) = du (τ (1, 28, 0)) (13 * i + 8) 0 := px_up_du
  refine ⟨⟨dn_nn (by omega), by omega⟩, hf _ (dM_outr h hB hn ⟨by rw [hrow, du_ne (by omega)]; exact g1.1, fun t ht => by rw [hrow, du_ne (by omega)]; exact g1.2 t ht⟩ (fun x hx => ?_) hi hg) hg⟩
  rw [hrow]
  unfold du
  rw [g2 x hx]
end E13
end
section
def dTs (B : dB) : Nat → Int32
  | 0 => 0
  | t + 1 => dTs B t + B.1 t 9
section E14
variable {α : Type} {σ μ : pxS} {k p : Nat} {P : dP} {B B1 B2 : dB} {Q : α → Prop}
theorem dM_gm (h : dM μ P B) (hn : P.1 ≤ 12) : F_Mo_good μ = some (dGm P B P.1) := by
  suffices hh : dw (F_Mo_good μ) (fun r => r = dGm P B P.1) by
    obtain ⟨a, e, rfl⟩ := hh; exact e
  unfold F_Mo_good
  rw [dw_b1]
  refine dw_up P.1 (by unfold px_N; omega) (fun t s => s.1 = dGm P B t ∧ s.2 = dn t) (fun t s ht hI => ?_) (fun s hI => ?_) (Nat.zero_le _) ⟨rfl, rfl⟩
  · obtain ⟨v3, v4⟩ := s
    obtain ⟨rfl, rfl⟩ := hI
    show dw (Mo_good_n4 μ _ _) _
    unfold Mo_good_n4
    refine dw_v (dM_n h) ?_
    rw [if_neg (by rw [dn_le (by omega) (by omega)]; omega)]
    refine dw_v (dM_gd h hn ht) ?_
    by_cases c : B.gd P t
    · rw [if_pos c, if_neg (by decide)]
      simp only [dw_some, dR_l]
      exact ⟨by rw [dGm, if_pos c], dn_suc t⟩
    · rw [if_neg c, if_pos rfl]
      simp only [dw_some, dR_l]
      exact ⟨by rw [dGm, if_neg c]; exact Int32.or_zero, dn_suc t⟩
  · obtain ⟨v3, v4⟩ := s
    obtain ⟨rfl, rfl⟩ := hI
    show dw (Mo_good_n4 μ _ _) _
    unfold Mo_good_n4
    refine dw_v (dM_n h) ?_
    rw [if_pos (by rw [dn_le (by omega) (by omega)]; omega)]
    simp only [dw_some, dR_r]
theorem dM_ts (h : dM μ P B) (hn : P.1 ≤ 12) : F_Mo_tripsAll μ = some (dTs B P.1) := by
  suffices hh : dw (F_Mo_tripsAll μ) (fun r => r = dTs B P.1) by
    obtain ⟨a, e, rfl⟩ := hh; exact e
  unfold F_Mo_tripsAll
  rw [dw_b1]
  refine dw_up P.1 (by unfold px_N; omega) (fun t s => s.1 = dTs B t ∧ s.2 = dn t) (fun t s ht hI => ?_) (fun s hI => ?_) (Nat.zero_le _) ⟨rfl, rfl⟩
  · obtain ⟨v3, v4⟩ := s
    obtain ⟨rfl, rfl⟩ := hI
    show dw (Mo_tripsAll_n4 μ _ _) _
    unfold Mo_tripsAll_n4
    refine dw_v (dM_n h) ?_
    rw [if_neg (by rw [dn_le (by omega) (by omega)]; omega), show 13 * dn t + 5 = dn (13 * t + 5) from ix t 5]
    refine dw_gi (by omega) (by omega) ?_
    rw [dn_nat (by omega), h.s.f t ht (9, 5) (by decide)]
    simp only [dw_some, dR_l]
    exact ⟨rfl, dn_suc t⟩
  · obtain ⟨v3, v4⟩ := s
    obtain ⟨rfl, rfl⟩ := hI
    show dw (Mo_tripsAll_n4 μ _ _) _
    unfold Mo_tripsAll_n4
    refine dw_v (dM_n h) ?_
    rw [if_pos (by rw [dn_le (by omega) (by omega)]; omega)]
    simp only [dw_some, dR_r]
theorem dC_ts (h : dC σ k p P B) (hn : P.1 ≤ 12) (hp : p < 2) : F_Bo_allTrips σ k = some (dTs B P.1) := by
  suffices hh : dw (F_Bo_allTrips σ k) (fun r => r = dTs B P.1) by
    obtain ⟨a, e, rfl⟩ := hh; exact e
  unfold F_Bo_allTrips
  rw [dw_b1]
  refine dw_up P.1 (by unfold px_N; omega) (fun t s => s.1 = dTs B t ∧ s.2 = dn t) (fun t s ht hI => ?_) (fun s hI => ?_) (Nat.zero_le _) ⟨rfl, rfl⟩
  · obtain ⟨v3, v4⟩ := s
    obtain ⟨rfl, rfl⟩ := hI
    show dw (Bo_allTrips_n4 σ k _ _) _
    unfold Bo_allTrips_n4
    rw [dC_n h hp, if_neg (by rw [dn_le (by omega) (by omega)]; omega)]
    refine dw_gi (by omega) (by omega) ?_
    rw [dn_nat (by omega), h.f t ht 9 (by omega)]
    simp only [dw_some, dR_l]
    exact ⟨rfl, dn_suc t⟩
  · obtain ⟨v3, v4⟩ := s
    obtain ⟨rfl, rfl⟩ := hI
    show dw (Bo_allTrips_n4 σ k _ _) _
    unfold Bo_allTrips_n4
    rw [dC_n h hp, if_pos (by rw [dn_le (by omega) (by omega)]; omega)]
    simp only [dw_some, dR_r]
end E14
end
section
/-! what is kept of a board's numbers -/
theorem dn_ex {x : Int32} {N : Nat} (h0 : 0 ≤ x.toInt) (h1 : x.toInt ≤ N) : ∃ a, a ≤ N ∧ x = dn a := by
  refine ⟨x.toNatClampNeg, ?_, dn_of h0⟩
  rw [Int32.toNatClampNeg]; omega
/-- a plan's other numbers -/
abbrev dWK (P : dP) : Prop := (∀ i, i < P.1 → ∃ a, 1 ≤ a ∧ a ≤ 9999 ∧ P.2.2.2 3 i = dn a) ∧ (∀ i, i < P.1 → ∃ a, a ≤ 99 ∧ P.2.2.2 4 i = dn a) ∧ (∃ a, a ≤ 9999 ∧ P.2.2.2 14 0 = dn a) ∧ (∃ a, a ≤ 9999 ∧ P.2.2.2 14 1 = dn a) ∧ (∃ a, a ≤ 100 ∧ P.2.2.2 14 2 = dn a) ∧ (∃ a, 1 ≤ a ∧ a ≤ 99 ∧ P.2.2.2 14 5 = dn a) ∧ (∃ a, a ≤ 99999 ∧ P.2.2.2 14 7 = dn a)
theorem dWK.rp {P : dP} (h0 : dWK P) : ∀ i, i < P.1 → ∃ a, 1 ≤ a ∧ a ≤ 9999 ∧ P.2.2.2 3 i = dn a := h0.1
theorem dWK.ch {P : dP} (h0 : dWK P) : ∀ i, i < P.1 → ∃ a, a ≤ 99 ∧ P.2.2.2 4 i = dn a := h0.2.1
theorem dWK.dr {P : dP} (h0 : dWK P) : ∃ a, a ≤ 9999 ∧ P.2.2.2 14 0 = dn a := h0.2.2.1
theorem dWK.fa {P : dP} (h0 : dWK P) : ∃ a, a ≤ 9999 ∧ P.2.2.2 14 1 = dn a := h0.2.2.2.1
theorem dWK.lo {P : dP} (h0 : dWK P) : ∃ a, a ≤ 100 ∧ P.2.2.2 14 2 = dn a := h0.2.2.2.2.1
theorem dWK.ho {P : dP} (h0 : dWK P) : ∃ a, 1 ≤ a ∧ a ≤ 99 ∧ P.2.2.2 14 5 = dn a := h0.2.2.2.2.2.1
theorem dWK.sd {P : dP} (h0 : dWK P) : ∃ a, a ≤ 99999 ∧ P.2.2.2 14 7 = dn a := h0.2.2.2.2.2.2
abbrev dRl (P : dP) (i : Nat) (g : Nat → Int32) : Prop := (∃ a l, P.2.2.2 2 i = dn l ∧ a ≤ l ∧ 1 ≤ l ∧ l ≤ 9999 ∧ g 3 = dn a) ∧ (∃ a, a ≤ 9999 ∧ g 0 = dn a) ∧ (g 6 = 0 ∨ g 6 = 1) ∧ (g 12 = 0 ∨ g 12 = 1) ∧ (∃ a, a ≤ 9999 ∧ g 4 = dn a) ∧ (g 11 = -2 ∨ (g 2 = 0 ∧ ∃ t, 1 ≤ t ∧ t ≤ 200000 ∧ g 11 = dn t))
theorem dRl.v {P : dP} {i : Nat} {g : Nat → Int32} (h0 : dRl P i g) : ∃ a l, P.2.2.2 2 i = dn l ∧ a ≤ l ∧ 1 ≤ l ∧ l ≤ 9999 ∧ g 3 = dn a := h0.1
theorem dRl.l {P : dP} {i : Nat} {g : Nat → Int32} (h0 : dRl P i g) : ∃ a, a ≤ 9999 ∧ g 0 = dn a := h0.2.1
theorem dRl.o {P : dP} {i : Nat} {g : Nat → Int32} (h0 : dRl P i g) : g 6 = 0 ∨ g 6 = 1 := h0.2.2.1
theorem dRl.t {P : dP} {i : Nat} {g : Nat → Int32} (h0 : dRl P i g) : g 12 = 0 ∨ g 12 = 1 := h0.2.2.2.1
theorem dRl.r {P : dP} {i : Nat} {g : Nat → Int32} (h0 : dRl P i g) : ∃ a, a ≤ 9999 ∧ g 4 = dn a := h0.2.2.2.2.1
theorem dRl.a {P : dP} {i : Nat} {g : Nat → Int32} (h0 : dRl P i g) : g 11 = -2 ∨ (g 2 = 0 ∧ ∃ t, 1 ≤ t ∧ t ≤ 200000 ∧ g 11 = dn t) := h0.2.2.2.2.2
def dLn (e : Nat × Int32 × Int32) : Prop := e.1 < 100000 ∧ (e.2.1 = -2 ∨ ∃ j, j < 12 ∧ e.2.1 = dn j) ∧ ∃ w, w < 8 ∧ e.2.2 = dn w
abbrev dK (P : dP) (B : dB) : Prop := (∀ i, i < P.1 → dRl P i (B.1 i)) ∧ (∀ e ∈ B.2.2.2.2.2.2.2.2, dLn e)
theorem dK.r {P : dP} {B : dB} (h0 : dK P B) : ∀ i, i < P.1 → dRl P i (B.1 i) := h0.1
theorem dK.g {P : dP} {B : dB} (h0 : dK P B) : ∀ e ∈ B.2.2.2.2.2.2.2.2, dLn e := h0.2
theorem dK_md {P : dP} {B B' : dB} (h : dK P B) (hf : B'.1 = B.1) (hl : B'.2.2.2.2.2.2.2.2 = B.2.2.2.2.2.2.2.2) : dK P B' := ⟨by rw [hf]; exact h.r, by rw [hl]; exact h.g⟩
theorem dK_wr {P : dP} {B : dB} {r w : Int32} (h : dK P B) (ht : B.2.2.2.1 < 100000) (hr : r = -2 ∨ ∃ j, j < 12 ∧ r = dn j) (hw : ∃ x, x < 8 ∧ w = dn x) : dK P (B.wr r w) := by
  refine ⟨h.r, fun e he => ?_⟩
  rcases List.mem_cons.mp he with rfl | he
  · exact ⟨ht, hr, hw⟩
  · exact h.g e he
theorem dK_up {P : dP} {B : dB} {i q : Nat} {v : Int32} (h : dK P B) (hv : i < P.1 → dRl P i ((B.st i q v).1 i)) : dK P (B.st i q v) := by
  refine ⟨fun j hj => ?_, h.g⟩
  by_cases e : j = i
  · subst e; exact hv hj
  · have : (B.st i q v).1 j = B.1 j := funext fun k => dB.st_ne (Or.inl e)
    rw [this]; exact h.r j hj
/-- fields of no concern -/
theorem dK_st {P : dP} {B : dB} {i q : Nat} {v : Int32} (h : dK P B) (hq : q ∈ [1, 5, 7, 8, 9, 10]) : dK P (B.st i q v) := dK_up h fun hi => by
  have g := h.r i hi
  have e : ∀ k, k ≠ q → (B.st i q v).1 i k = B.1 i k := fun k hk => dB.st_ne (Or.inr hk)
  simp at hq
  exact ⟨by rw [e 3 (by omega)]; exact g.v, by rw [e 0 (by omega)]; exact g.l, by rw [e 6 (by omega)]; exact g.o, by rw [e 12 (by omega)]; exact g.t, by rw [e 4 (by omega)]; exact g.r, by rw [e 11 (by omega), e 2 (by omega)]; exact g.a⟩
theorem dK_0 {P : dP} {B : dB} {i : Nat} {v : Int32} (h : dK P B) (hv : ∃ a, a ≤ 9999 ∧ v = dn a) : dK P (B.st i 0 v) := dK_up h fun hi => by
  have g := h.r i hi
  have e : ∀ k, k ≠ 0 → (B.st i 0 v).1 i k = B.1 i k := fun k hk => dB.st_ne (Or.inr hk)
  exact ⟨by rw [e 3 (by omega)]; exact g.v, by rw [dB.st_eq]; exact hv, by rw [e 6 (by omega)]; exact g.o, by rw [e 12 (by omega)]; exact g.t, by rw [e 4 (by omega)]; exact g.r, by rw [e 11 (by omega), e 2 (by omega)]; exact g.a⟩
theorem dK_2 {P : dP} {B : dB} {i : Nat} {v : Int32} (h : dK P B) (hv : v = 0 ∨ B.1 i 11 = -2) : dK P (B.st i 2 v) := dK_up h fun hi => by
  have g := h.r i hi
  have e : ∀ k, k ≠ 2 → (B.st i 2 v).1 i k = B.1 i k := fun k hk => dB.st_ne (Or.inr hk)
  refine ⟨by rw [e 3 (by omega)]; exact g.v, by rw [e 0 (by omega)]; exact g.l, by rw [e 6 (by omega)]; exact g.o, by rw [e 12 (by omega)]; exact g.t, by rw [e 4 (by omega)]; exact g.r, ?_⟩
  rw [e 11 (by omega), dB.st_eq]
  rcases hv with hv | hv
  · exact g.a.imp id fun z => ⟨hv, z.2⟩
  · exact Or.inl hv
theorem dK_3 {P : dP} {B : dB} {i : Nat} {v : Int32} (h : dK P B) (hv : i < P.1 → ∃ a l, P.2.2.2 2 i = dn l ∧ a ≤ l ∧ 1 ≤ l ∧ l ≤ 9999 ∧ v = dn a) : dK P (B.st i 3 v) := dK_up h fun hi => by
  have g := h.r i hi
  have e : ∀ k, k ≠ 3 → (B.st i 3 v).1 i k = B.1 i k := fun k hk => dB.st_ne (Or.inr hk)
  exact ⟨by rw [dB.st_eq]; exact hv hi, by rw [e 0 (by omega)]; exact g.l, by rw [e 6 (by omega)]; exact g.o, by rw [e 12 (by omega)]; exact g.t, by rw [e 4 (by omega)]; exact g.r, by rw [e 11 (by omega), e 2 (by omega)]; exact g.a⟩
theorem dK_4 {P : dP} {B : dB} {i : Nat} {v : Int32} (h : dK P B) (hv : ∃ a, a ≤ 9999 ∧ v = dn a) : dK P (B.st i 4 v) := dK_up h fun hi => by
  have g := h.r i hi
  have e : ∀ k, k ≠ 4 → (B.st i 4 v).1 i k = B.1 i k := fun k hk => dB.st_ne (Or.inr hk)
  exact ⟨by rw [e 3 (by omega)]; exact g.v, by rw [e 0 (by omega)]; exact g.l, by rw [e 6 (by omega)]; exact g.o, by rw [e 12 (by omega)]; exact g.t, by rw [dB.st_eq]; exact hv, by rw [e 11 (by omega), e 2 (by omega)]; exact g.a⟩
theorem dK_6 {P : dP} {B : dB} {i : Nat} {v : Int32} (h : dK P B) (hv : v = 0 ∨ v = 1) : dK P (B.st i 6 v) := dK_up h fun hi => by
  have g := h.r i hi
  have e : ∀ k, k ≠ 6 → (B.st i 6 v).1 i k = B.1 i k := fun k hk => dB.st_ne (Or.inr hk)
  exact ⟨by rw [e 3 (by omega)]; exact g.v, by rw [e 0 (by omega)]; exact g.l, by rw [dB.st_eq]; exact hv, by rw [e 12 (by omega)]; exact g.t, by rw [e 4 (by omega)]; exact g.r, by rw [e 11 (by omega), e 2 (by omega)]; exact g.a⟩
theorem dK_12 {P : dP} {B : dB} {i : Nat} {v : Int32} (h : dK P B) (hv : v = 0 ∨ v = 1) : dK P (B.st i 12 v) := dK_up h fun hi => by
  have g := h.r i hi
  have e : ∀ k, k ≠ 12 → (B.st i 12 v).1 i k = B.1 i k := fun k hk => dB.st_ne (Or.inr hk)
  exact ⟨by rw [e 3 (by omega)]; exact g.v, by rw [e 0 (by omega)]; exact g.l, by rw [e 6 (by omega)]; exact g.o, by rw [dB.st_eq]; exact hv, by rw [e 4 (by omega)]; exact g.r, by rw [e 11 (by omega), e 2 (by omega)]; exact g.a⟩
theorem dK_11 {P : dP} {B : dB} {i : Nat} {v : Int32} (h : dK P B) (hv : v = -2 ∨ (B.1 i 2 = 0 ∧ ∃ t, 1 ≤ t ∧ t ≤ 200000 ∧ v = dn t)) : dK P (B.st i 11 v) := dK_up h fun hi => by
  have g := h.r i hi
  have e : ∀ k, k ≠ 11 → (B.st i 11 v).1 i k = B.1 i k := fun k hk => dB.st_ne (Or.inr hk)
  exact ⟨by rw [e 3 (by omega)]; exact g.v, by rw [e 0 (by omega)]; exact g.l, by rw [e 6 (by omega)]; exact g.o, by rw [e 12 (by omega)]; exact g.t, by rw [e 4 (by omega)]; exact g.r, by rw [dB.st_eq, e 2 (by omega)]; exact hv⟩
/-- a rail that is not off will not come again -/
theorem dK_no {P : dP} {B : dB} {i : Nat} (h : dK P B) (hi : i < P.1) (h0 : ¬ B.1 i 2 = 0) : B.1 i 11 = -2 := by
  rcases (h.r i hi).a with z | z
  · exact z
  · exact absurd z.1 h0
theorem dK_uw {P : dP} {B : dB} {set : Int32} (h : dK P B) : ∀ t, dK P (dUW set t B) := by
  intro t
  induction t with
  | zero => exact h
  | succ t ih =>
    unfold dUW
    by_cases c : db set t = true ∧ (dUW set t B).1 t 2 = 1
    · rw [if_pos c]; exact dK_md (dK_2 (i := t) ih (Or.inl rfl)) rfl rfl
    · rw [if_neg c]; exact ih
theorem dK_row {P : dP} {set : Int32} : ∀ {k : Nat} {B : dB}, dK P B → dK P (dRow P.1 set k B) := by
  intro k
  induction k with
  | zero => intro B h; exact h
  | succ k ih =>
    intro B h
    unfold dRow
    cases e : dLat B set P.1 with
    | none => exact h
    | some i => exact ih (dK_md (dK_12 (i := i) h (Or.inl rfl)) rfl rfl)
theorem dK_un {P : dP} {B : dB} {set : Int32} (h : dK P B) : dK P (dUn P.1 set B) := dK_row (dK_uw h P.1)
theorem dK_as {P : dP} {B : dB} {i : Nat} (h : dK P B) : dK P (B.as i) := dK_12 (dK_st (dK_11 h (Or.inl rfl)) (by simp)) (Or.inl rfl)
theorem dB.as_11 {B : dB} {i : Nat} : (B.as i).1 i 11 = -2 := by
  show (((B.st i 11 (-2)).st i 10 0).st i 12 0).1 i 11 = _
  rw [dB.st_ne (Or.inr (by omega)), dB.st_ne (Or.inr (by omega)), dB.st_eq]
theorem dK_ask {P : dP} {B : dB} {i : Nat} {off : Bool} (h : dK P B) : dK P (dAsk P B i off) := by
  have h1 := dK_as (i := i) h
  have h2 := dB.as_11 (B := B) (i := i)
  unfold dAsk
  by_cases c : off = false
  · rw [if_pos c]
    unfold dWo
    by_cases c1 : (B.as i).1 i 2 = 0
    · rw [if_pos c1]; exact dK_md (dK_2 (i := i) (v := 1) h1 (Or.inr h2)) rfl rfl
    · rw [if_neg c1]; exact h1
  · rw [if_neg c]
    by_cases c2 : (B.as i).1 i 2 = 1
    · rw [if_pos c2]; exact dK_md (dK_2 (i := i) (v := 0) h1 (Or.inl rfl)) rfl rfl
    · rw [if_neg c2]
      by_cases c3 : (B.as i).on i
      · rw [if_pos c3]; exact dK_un h1
      · rw [if_neg c3]; exact h1
theorem dK_fail {P : dP} {B : dB} (h : dK P B) (ht : B.2.2.2.1 < 100000) : dK P (dFail B) :=
  dK_wr (B := (B.1, B.2.1, B.2.2.1, B.2.2.2.1, B.2.2.2.2.1, 3, B.2.2.2.2.2.2.1, B.2.2.2.2.2.2.2.1, B.2.2.2.2.2.2.2.2)) (dK_md h rfl rfl) ht (Or.inl rfl) ⟨5, by omega, rfl⟩
theorem dK_trip {P : dP} {B : dB} {i : Nat} (h : dK P B) (ht : B.2.2.2.1 < 100000) (hi : i < 12) : dK P (dTrip P B i) := by
  have h1 : dK P (dTr0 P B i) := dK_12 (dK_un (dK_wr (dK_st h (by simp)) ht (Or.inr ⟨i, hi, rfl⟩) ⟨2, by omega, rfl⟩)) (Or.inr rfl)
  unfold dTrip
  by_cases c : (dTr0 P B i).2.2.2.2.2.1 = 1
  · rw [if_pos c]
    refine dK_fail h1 ?_
    have sm := dSm_un (n := P.1) (set := dSet P i) (B := (B.st i 9 (B.1 i 9 + 1)).wr (dn i) 2)
    show (dUn P.1 (dSet P i) _).2.2.2.1 < _
    rw [sm.tick]; exact ht
  · rw [if_neg c]; exact h1
theorem dTrip_tk {P : dP} {B : dB} {i : Nat} : (dTrip P B i).2.2.2.1 = B.2.2.2.1 ∧ (dTrip P B i).2.2.2.2.1 = B.2.2.2.2.1 := by
  have sm := dSm_un (n := P.1) (set := dSet P i) (B := (B.st i 9 (B.1 i 9 + 1)).wr (dn i) 2)
  have e : (dTr0 P B i).2.2.2.1 = B.2.2.2.1 := sm.tick
  have e2 : (dTr0 P B i).2.2.2.2.1 = B.2.2.2.2.1 := sm.total
  unfold dTrip
  by_cases c : (dTr0 P B i).2.2.2.2.2.1 = 1
  · rw [if_pos c]; exact ⟨e, e2⟩
  · rw [if_neg c]; exact ⟨e, e2⟩
theorem dK_ca1 {P : dP} {B : dB} {t : Nat} (h : dK P B) (ht : B.2.2.2.1 < 100000) (hi : t < 12) : dK P (dCA1 B t) := by
  unfold dCA1
  by_cases c : B.1 t 11 = dn B.2.2.2.1
  · rw [if_pos c]
    have h1 : dK P (B.st t 11 (-2)) := dK_11 h (Or.inl rfl)
    by_cases c2 : B.1 t 2 = 0
    · rw [if_pos c2]
      refine dK_wr (dK_st ?_ (by simp)) ht (Or.inr ⟨t, hi, rfl⟩) ⟨7, by omega, rfl⟩
      exact dK_md (dK_2 (i := t) (v := 1) h1 (Or.inr dB.st_eq)) rfl rfl
    · rw [if_neg c2]; exact h1
  · rw [if_neg c]; exact h
theorem dK_ca {P : dP} {B : dB} (h : dK P B) (ht : B.2.2.2.1 < 100000) (hn : P.1 ≤ 12) : dK P (dCA P B) :=
  (dFo_inv (g := dCA1) (I := fun _ B' => dK P B' ∧ B'.2.2.2.1 = B.2.2.2.1) (n := P.1) ⟨h, rfl⟩ (fun t B' hl h1 => ⟨dK_ca1 h1.1 (by omega) (by omega), ((dCA1_l B' t).2.2.1).trans h1.2⟩) P.1 (Nat.le_refl _)).1
theorem dCA_tk {P : dP} {B : dB} : (dCA P B).2.2.2.1 = B.2.2.2.1 :=
  dFo_inv (g := dCA1) (I := fun _ B' => B'.2.2.2.1 = B.2.2.2.1) (n := P.1) rfl (fun t B' _ h1 => ((dCA1_l B' t).2.2.1).trans h1) P.1 (Nat.le_refl _)
theorem dK_stp {P : dP} {B : dB} (h : dK P B) (ht : B.2.2.2.1 < 100000) : dK P (dStp P B).2 := by
  unfold dStp
  by_cases c0 : P.2.2.2 11 B.2.2.2.2.2.2.1 = 0
  · rw [if_pos c0]; exact dK_ask (off := false) h
  · rw [if_neg c0]
    by_cases c1 : P.2.2.2 11 B.2.2.2.2.2.2.1 = 1
    · rw [if_pos c1]; exact dK_ask (off := true) h
    · rw [if_neg c1]
      by_cases c2 : P.2.2.2 11 B.2.2.2.2.2.2.1 = 2
      · rw [if_pos c2]
        by_cases c3 : B.2.2.2.2.2.2.2.1 < (P.2.2.2 13 B.2.2.2.2.2.2.1).toNatClampNeg
        · rw [if_pos c3]; exact dK_md h rfl rfl
        · rw [if_neg c3]; exact h
      · rw [if_neg c2]
        by_cases c4 : B.gd P (P.2.2.2 12 B.2.2.2.2.2.2.1).toNatClampNeg
        · rw [if_pos c4]; exact h
        · rw [if_neg c4]
          by_cases c5 : B.2.2.2.2.2.2.2.1 + 1 < (P.2.2.2 13 B.2.2.2.2.2.2.1).toNatClampNeg
          · rw [if_pos c5]; exact dK_md h rfl rfl
          · rw [if_neg c5]; exact dK_un (dK_fail (dK_md h rfl rfl) ht)
theorem dK_sq {P : dP} : ∀ (k : Nat) {B : dB}, dK P B → B.2.2.2.1 < 100000 → dK P (dSq P k B) ∧ (dSq P k B).2.2.2.1 = B.2.2.2.1 := by
  intro k
  induction k with
  | zero => intro B h _; exact ⟨h, rfl⟩
  | succ k ih =>
    intro B h ht
    unfold dSq
    by_cases c : B.2.2.2.2.2.1 = 1
    · rw [if_pos c]
      by_cases c1 : B.2.2.2.2.2.2.1 < P.2.2.1
      · rw [if_pos c1]
        have n2 := (dStp_n (P := P) (B := B)).2.1
        have h2 := dK_stp h ht
        cases e : (dStp P B).1 with
        | false =>
          have e' : dStp P B = (false, (dStp P B).2) := by rw [← e]
          rw [e']
          exact ⟨h2, n2⟩
        | true =>
          have e' : dStp P B = (true, (dStp P B).2) := by rw [← e]
          rw [e']
          dsimp only
          obtain ⟨g1, g2⟩ := ih (B := (((dStp P B).2).1, ((dStp P B).2).2.1, ((dStp P B).2).2.2.1, ((dStp P B).2).2.2.2.1, ((dStp P B).2).2.2.2.2.1, ((dStp P B).2).2.2.2.2.2.1, (dStp P B).2.2.2.2.2.2.2.1 + 1, 0, ((dStp P B).2).2.2.2.2.2.2.2.2)) (dK_md h2 rfl rfl) (by show (dStp P B).2.2.2.2.1 < _; omega)
          exact ⟨g1, g2.trans n2⟩
      · rw [if_neg c1]
        exact ih (B := (dB.wr (B.1, B.2.1, B.2.2.1, B.2.2.2.1, B.2.2.2.2.1, 2, B.2.2.2.2.2.2.1, B.2.2.2.2.2.2.2.1, B.2.2.2.2.2.2.2.2)) (-2) 6) (dK_wr (B := (B.1, B.2.1, B.2.2.1, B.2.2.2.1, B.2.2.2.2.1, 2, B.2.2.2.2.2.2.1, B.2.2.2.2.2.2.2.1, B.2.2.2.2.2.2.2.2)) (dK_md h rfl rfl) ht (Or.inl rfl) ⟨6, by omega, rfl⟩) ht
    · rw [if_neg c]; exact ⟨h, rfl⟩
theorem dK_rs {P : dP} {B : dB} {i : Nat} (h : dK P B) (ht : B.2.2.2.1 < 100000) (hi : i < 12) (h2 : B.1 i 11 = -2) : dK P (B.rs i) :=
  dK_wr (dK_st (dK_2 (i := i) (v := 2) (dK_md (B' := (B.1, dDrop B.2.1 i, B.2.2.1, B.2.2.2.1, B.2.2.2.2.1, B.2.2.2.2.2.1, B.2.2.2.2.2.2.1, B.2.2.2.2.2.2.2.1, B.2.2.2.2.2.2.2.2)) h rfl rfl) (Or.inr h2)) (by simp)) ht (Or.inr ⟨i, hi, rfl⟩) ⟨0, by omega, rfl⟩
theorem dK_rS {P : dP} {G : Int32} (hn : P.1 ≤ 12) : ∀ (l : List Nat) {B : dB}, dK P B → B.2.2.2.1 < 100000 → (∀ i ∈ l, i < P.1 ∧ B.1 i 11 = -2) → dK P (dRs P G l B) ∧ (dRs P G l B).2.2.2.1 = B.2.2.2.1 := by
  intro l
  induction l with
  | nil => intro B h _ _; exact ⟨h, rfl⟩
  | cons i l ih =>
    intro B h ht hl
    have hi := hl i List.mem_cons_self
    unfold dRs
    by_cases c : dHd P G i = 0
    · rw [if_pos c]
      refine ih (B := B.rs i) (dK_rs h ht (by omega) hi.2) ht fun j hj => ⟨(hl j (List.mem_cons_of_mem _ hj)).1, ?_⟩
      show ((((dB.st (B.1, dDrop B.2.1 i, B.2.2.1, B.2.2.2.1, B.2.2.2.2.1, B.2.2.2.2.2.1, B.2.2.2.2.2.2.1, B.2.2.2.2.2.2.2.1, B.2.2.2.2.2.2.2.2)) i 2 2).st i 8 (dn B.2.2.2.1))).1 j 11 = _
      rw [dB.st_ne (Or.inr (by omega)), dB.st_ne (Or.inr (by omega))]
      exact (hl j (List.mem_cons_of_mem _ hj)).2
    · rw [if_neg c]
      exact ih h ht fun j hj => hl j (List.mem_cons_of_mem _ hj)
theorem dK_br {P : dP} {B : dB} (hn : P.1 ≤ 12) (h : dK P B) (hB : dWB P B) (ht : B.2.2.2.1 < 100000) : dK P (dBR P B) ∧ (dBR P B).2.2.2.1 = B.2.2.2.1 :=
  dK_rS hn B.2.1 h ht fun i hi => by
    have hin := hB.w.2 i hi
    refine ⟨hin, dK_no h hin ?_⟩
    rw [(hB.ws i hin).mpr hi]; decide
/-! volts, in small numbers -/
theorem dDn_dn {a b : Nat} (ha : a < 1000000) (hb : b < 1000000) : dDn (dn a) (dn b) = dn (a - b) := by
  unfold dDn
  have e : (dn a - dn b).toInt = (a : Int) - b := by
    rw [Int32.toInt_sub, dn_toInt (by omega), dn_toInt (by omega), Int.bmod_eq_of_le (by omega) (by omega)]
  by_cases c : b < a
  · rw [if_pos (by rw [Int32.lt_iff_toInt_lt, e]; simp; omega), dn_sub (by omega)]
  · rw [if_neg (by rw [Int32.lt_iff_toInt_lt, e]; simp; omega), show a - b = 0 by omega]
    rfl
theorem dUp_dn {P : dP} {B : dB} {t a r l : Nat} (e1 : B.1 t 3 = dn a) (e2 : P.2.2.2 3 t = dn r) (e3 : P.2.2.2 2 t = dn l) (ha : a < 1000000) (hr : r < 1000000) (hl : l < 1000000) : dUp P B t = dn (min (a + r) l) := by
  unfold dUp
  rw [e1, e2, e3, dn_add]
  by_cases c : a + r < l
  · rw [if_pos (by rw [dn_lt (by omega) (by omega)]; exact c)]; congr 1; omega
  · rw [if_neg (by rw [dn_lt (by omega) (by omega)]; exact c)]; congr 1; omega
theorem dK_off {P : dP} {B : dB} {t : Nat} (hK : dWK P) (h : dK P B) (ht : B.2.2.2.1 < 100000) (hi : t < 12) : dK P (dOff P B t) := by
  have h1 : dK P ((B.st t 2 0).wr (dn t) 4) := dK_wr (dK_2 h (Or.inl rfl)) ht (Or.inr ⟨t, hi, rfl⟩) ⟨4, by omega, rfl⟩
  unfold dOff
  by_cases c : B.1 t 12 = 0
  · rw [if_pos c]; exact h1
  · rw [if_neg c]
    by_cases c2 : P.2.2.2 14 4 ≤ B.1 t 10
    · rw [if_pos c2]; exact h1
    · rw [if_neg c2]
      obtain ⟨a, a1, a2, ea⟩ := hK.ho
      refine dK_11 h1 (Or.inr ⟨dB.st_eq, B.2.2.2.1 + a, by omega, by omega, ?_⟩)
      rw [ea, dn_add]
theorem dOff_tk {P : dP} {B : dB} {t : Nat} : (dOff P B t).2.2.2.1 = B.2.2.2.1 ∧ (dOff P B t).2.2.2.2.1 = B.2.2.2.2.1 := by
  unfold dOff
  by_cases c : B.1 t 12 = 0
  · rw [if_pos c]; exact ⟨rfl, rfl⟩
  · rw [if_neg c]
    by_cases c2 : P.2.2.2 14 4 ≤ B.1 t 10
    · rw [if_pos c2]; exact ⟨rfl, rfl⟩
    · rw [if_neg c2]; exact ⟨rfl, rfl⟩
theorem dVo_tk {P : dP} {B : dB} {t : Nat} : (dVo P B t).2.2.2.1 = B.2.2.2.1 := by
  show (dVa P B t).2.2.2.1 = _
  unfold dVa
  by_cases c : B.1 t 2 = 2
  · rw [if_pos c]
    by_cases c1 : dUp P B t = P.2.2.2 2 t
    · rw [if_pos c1]; rfl
    · rw [if_neg c1]; rfl
  · rw [if_neg c]
    by_cases c2 : B.1 t 2 = 3
    · rw [if_pos c2]
      by_cases c3 : B.1 t 6 = 0
      · rw [if_pos c3]; rfl
      · rw [if_neg c3]; rfl
    · rw [if_neg c2]
      by_cases c4 : B.1 t 2 = 4
      · rw [if_pos c4]
        by_cases c5 : dDn (B.1 t 3) (P.2.2.2 14 1) = 0
        · rw [if_pos c5]; exact dOff_tk.1
        · rw [if_neg c5]; rfl
      · rw [if_neg c4]
theorem dK_vo {P : dP} {B : dB} {t : Nat} (hn : P.1 ≤ 12) (hK : dWK P) (h : dK P B) (ht : B.2.2.2.1 < 100000) (hi : t < P.1) : dK P (dVo P B t) := by
  obtain ⟨a, l, el, hal, hl1, hl9, ea⟩ := (h.r t hi).v
  obtain ⟨r, hr1, hr9, er⟩ := hK.rp t hi
  obtain ⟨d, hd9, ed⟩ := hK.dr
  obtain ⟨f, hf9, ef⟩ := hK.fa
  have eu := dUp_dn ea er el (by omega) (by omega) (by omega)
  have e0 : dDn (B.1 t 3) (P.2.2.2 14 0) = dn (a - d) := by rw [ea, ed]; exact dDn_dn (by omega) (by omega)
  have e1 : dDn (B.1 t 3) (P.2.2.2 14 1) = dn (a - f) := by rw [ea, ef]; exact dDn_dn (by omega) (by omega)
  have k3 : ∀ x, x ≤ l → dK P (B.st t 3 (dn x)) := fun x hx => dK_3 h fun _ => ⟨x, l, el, hx, hl1, hl9, rfl⟩
  have key : dK P (dVa P B t) := by
    unfold dVa
    by_cases c : B.1 t 2 = 2
    · rw [if_pos c, eu]
      have k := k3 (min (a + r) l) (by omega)
      by_cases c1 : dn (min (a + r) l) = P.2.2.2 2 t
      · rw [if_pos c1]
        refine dK_wr (dK_2 k (Or.inr ?_)) ht (Or.inr ⟨t, by omega, rfl⟩) ⟨1, by omega, rfl⟩
        rw [dB.st_ne (Or.inr (by omega))]
        exact dK_no h hi (by rw [c]; decide)
      · rw [if_neg c1]; exact k
    · rw [if_neg c]
      by_cases c2 : B.1 t 2 = 3
      · rw [if_pos c2]
        by_cases c3 : B.1 t 6 = 0
        · rw [if_pos c3, eu]; exact k3 _ (by omega)
        · rw [if_neg c3, e0]; exact k3 _ (by omega)
      · rw [if_neg c2]
        by_cases c4 : B.1 t 2 = 4
        · rw [if_pos c4, e1]
          by_cases c5 : dn (a - f) = 0
          · rw [if_pos c5]; exact dK_off hK (k3 _ (by omega)) ht (by omega)
          · rw [if_neg c5]; exact k3 _ (by omega)
        · rw [if_neg c4]; exact h
  refine dK_4 key ?_
  obtain ⟨a', l', el', hal', _, hl9', ea'⟩ := (key.r t hi).v
  exact ⟨a' - a, by omega, by rw [ea', ea]; exact dDn_dn (by omega) (by omega)⟩
theorem dK_mv {P : dP} {B : dB} (hn : P.1 ≤ 12) (hK : dWK P) (h : dK P B) (ht : B.2.2.2.1 < 100000) : dK P (dMV P B) ∧ (dMV P B).2.2.2.1 = B.2.2.2.1 :=
  dFo_inv (g := dVo P) (I := fun _ B' => dK P B' ∧ B'.2.2.2.1 = B.2.2.2.1) (n := P.1) ⟨h, rfl⟩ (fun t B' hl h1 => ⟨dK_vo hn hK h1.1 (by omega) hl, dVo_tk.trans h1.2⟩) P.1 (Nat.le_refl _)
theorem dK_dr {P : dP} {B : dB} {i : Nat} (h : dK P B) : dK P (dDr P B i) ∧ (dDr P B i).2.2.2.1 = B.2.2.2.1 := by
  have h1 : dK P (dD1 P B i) ∧ (dD1 P B i).2.2.2.1 = B.2.2.2.1 := by
    unfold dD1
    by_cases c : B.on i
    · rw [if_pos c]; exact ⟨dK_st h (by simp), rfl⟩
    · rw [if_neg c]; exact ⟨h, rfl⟩
  have h3 : dK P (dD3 (dD2 P (dD1 P B i) i) i) := dK_6 (dK_st h1.1 (by simp)) (by
    by_cases c : (dD2 P (dD1 P B i) i).1 i 5 ≤ (dD2 P (dD1 P B i) i).1 i 1
    · rw [if_pos c]; exact Or.inl rfl
    · rw [if_neg c]; exact Or.inr rfl)
  unfold dDr dD4
  by_cases c : P.2.2.2 1 i < 0
  · rw [if_pos c]; exact ⟨dK_md h3 rfl rfl, h1.2⟩
  · rw [if_neg c]; exact ⟨dK_st h3 (by simp), h1.2⟩
theorem dK_mD {P : dP} {B : dB} (h : dK P B) : dK P (dMD P B) ∧ (dMD P B).2.2.2.1 = B.2.2.2.1 := by
  have h1 := dFo_inv (g := fun B t => B.st t 5 0) (I := fun _ B' => dK P B' ∧ B'.2.2.2.1 = B.2.2.2.1) (n := P.1) (B := (B.1, B.2.1, B.2.2.1, B.2.2.2.1, 0, B.2.2.2.2.2.1, B.2.2.2.2.2.2.1, B.2.2.2.2.2.2.2.1, B.2.2.2.2.2.2.2.2)) ⟨dK_md h rfl rfl, rfl⟩ (fun t B' _ h1 => ⟨dK_st h1.1 (by simp), h1.2⟩) P.1 (Nat.le_refl _)
  exact dFo_inv (g := fun B t => dDr P B (P.1 - 1 - t)) (I := fun _ B' => dK P B' ∧ B'.2.2.2.1 = B.2.2.2.1) (n := P.1) h1 (fun t B' _ h1 => ⟨(dK_dr h1.1).1, (dK_dr h1.1).2.trans h1.2⟩) P.1 (Nat.le_refl _)
theorem dK_tl1 {P : dP} {B : dB} {t : Nat} (h : dK P B) (ht : B.2.2.2.1 < 100000) (hi : t < 12) : dK P (dTL1 P B t) ∧ (dTL1 P B t).2.2.2.1 = B.2.2.2.1 ∧ (dTL1 P B t).2.2.2.2.1 = B.2.2.2.2.1 := by
  have h1 : dK P (B.st t 7 (dLw P B t)) := dK_st h (by simp)
  unfold dTL1
  by_cases c : dLw P B t < P.2.2.2 14 3
  · rw [if_pos c]; exact ⟨h1, rfl, rfl⟩
  · rw [if_neg c]
    by_cases c2 : t ∈ B.2.2.1
    · rw [if_pos c2]; exact ⟨h1, rfl, rfl⟩
    · rw [if_neg c2]; exact ⟨dK_trip h1 ht hi, dTrip_tk.1, dTrip_tk.2⟩
theorem dK_tL {P : dP} {B : dB} (hn : P.1 ≤ 12) (h : dK P B) (ht : B.2.2.2.1 < 100000) : dK P (dTL P B) ∧ (dTL P B).2.2.2.1 = B.2.2.2.1 ∧ (dTL P B).2.2.2.2.1 = B.2.2.2.2.1 :=
  dFo_inv (g := dTL1 P) (I := fun _ B' => dK P B' ∧ B'.2.2.2.1 = B.2.2.2.1 ∧ B'.2.2.2.2.1 = B.2.2.2.2.1) (n := P.1) ⟨h, rfl, rfl⟩ (fun t B' hl h1 => by
    obtain ⟨g1, g2, g3⟩ := dK_tl1 (t := t) h1.1 (by omega) (by omega)
    exact ⟨g1, g2.trans h1.2.1, g3.trans h1.2.2⟩) P.1 (Nat.le_refl _)
theorem dK_ta {P : dP} {B : dB} (hn : P.1 ≤ 12) (h : dK P B) (ht : B.2.2.2.1 < 100000) : dK P (dTA P B) ∧ (dTA P B).2.2.2.1 = B.2.2.2.1 ∧ (dTA P B).2.2.2.2.1 = B.2.2.2.2.1 := by
  unfold dTA
  cases e : dLat B (dAll P.1) P.1 with
  | none => exact ⟨h, rfl, rfl⟩
  | some i => exact ⟨dK_trip h ht (by have := (dLat_lt e).1; omega), dTrip_tk.1, dTrip_tk.2⟩
theorem dK_lf {P : dP} {B : dB} (hn : P.1 ≤ 12) (h : dK P B) (hB : dWB P B) (ht : B.2.2.2.1 < 100000) : dK P (dLF B) ∧ (dLF B).2.2.2.1 = B.2.2.2.1 ∧ (dLF B).2.2.2.2.1 = B.2.2.2.2.1 := by
  unfold dLF
  cases e : B.2.2.1 with
  | nil => exact ⟨h, rfl, rfl⟩
  | cons i l =>
    have hi : i < P.1 := hB.r.2 i (by rw [e]; simp)
    have ho := hB.ro i (by rw [e]; simp)
    dsimp only
    rw [← e]
    have h11 : B.1 i 11 = -2 := dK_no h hi (by rcases ho with z | z <;> rw [z] <;> decide)
    refine ⟨dK_wr (dK_2 (dK_md (B' := (B.1, B.2.1, dDrop B.2.2.1 i, B.2.2.2.1, B.2.2.2.2.1, B.2.2.2.2.2.1, B.2.2.2.2.2.2.1, B.2.2.2.2.2.2.2.1, B.2.2.2.2.2.2.2.2)) h rfl rfl) (Or.inr h11)) ht (Or.inr ⟨i, by omega, rfl⟩) ⟨3, by omega, rfl⟩, rfl, rfl⟩
/-- a tick keeps it all; the total is that of the draws -/
theorem dK_pass {P : dP} {L : Nat} {B : dB} (hP : dWP P) (hS : dWS P) (hK : dWK P) (hB : dSV P L B) (h : dK P B) (ht : B.2.2.2.1 < 99999) : dK P (dPass P B) ∧ dSV P (L + 64) (dPass P B) ∧ (dPass P B).2.2.2.1 = B.2.2.2.1 + 1 := by
  have hn := hP.n
  have v0 : dSV P L (B.1, B.2.1, B.2.2.1, B.2.2.2.1 + 1, B.2.2.2.2.1, B.2.2.2.2.2.1, B.2.2.2.2.2.2.1, B.2.2.2.2.2.2.2.1, B.2.2.2.2.2.2.2.2) := dSV_md hB rfl rfl rfl rfl rfl rfl rfl
  have v1 := dSV_ca v0 hn
  have v2 := dSV_sq hS hn 25 v1
  have v3 := dSV_br v2 hn
  have v4 := dSV_mv v3 hn
  have v5 := dSV_mD v4
  have v6 : dSV P _ (dB7 P B) := dSV_tL v5 hn
  have t0 : ((B.1, B.2.1, B.2.2.1, B.2.2.2.1 + 1, B.2.2.2.2.1, B.2.2.2.2.2.1, B.2.2.2.2.2.2.1, B.2.2.2.2.2.2.2.1, B.2.2.2.2.2.2.2.2) : dB).2.2.2.1 < 100000 := by show B.2.2.2.1 + 1 < _; omega
  have k0 : dK P (B.1, B.2.1, B.2.2.1, B.2.2.2.1 + 1, B.2.2.2.2.1, B.2.2.2.2.2.1, B.2.2.2.2.2.2.1, B.2.2.2.2.2.2.2.1, B.2.2.2.2.2.2.2.2) := dK_md h rfl rfl
  have k1 := dK_ca k0 t0 hn
  have t1 := dCA_tk (P := P) (B := (B.1, B.2.1, B.2.2.1, B.2.2.2.1 + 1, B.2.2.2.2.1, B.2.2.2.2.2.1, B.2.2.2.2.2.2.1, B.2.2.2.2.2.2.2.1, B.2.2.2.2.2.2.2.2))
  rw [← t1] at t0
  obtain ⟨k2, t2⟩ := dK_sq (P := P) 25 k1 t0
  rw [← t2] at t0
  obtain ⟨k3, t3⟩ := dK_br hn k2 v2.b t0
  rw [← t3] at t0
  obtain ⟨k4, t4⟩ := dK_mv hn hK k3 t0
  rw [← t4] at t0
  obtain ⟨k5, t5⟩ := dK_mD k4
  rw [← t5] at t0
  obtain ⟨k6, t6, _⟩ := dK_tL hn k5 t0
  change dK P (dB7 P B) at k6
  have t7 : (dB7 P B).2.2.2.1 = B.2.2.2.1 + 1 := t6.trans (t5.trans (t4.trans (t3.trans (t2.trans t1))))
  unfold dPass
  by_cases c : (dB7 P B).2.2.2.2.1 ≤ P.2.2.2 14 6
  · rw [if_pos c]
    obtain ⟨k8, t8, _⟩ := dK_lf hn k6 v6.b (by omega)
    exact ⟨k8, dSV_le (dSV_lf v6) (by omega), by omega⟩
  · rw [if_neg c]
    obtain ⟨k7, t7', _⟩ := dK_ta hn k6 (by omega)
    have v7 := dSV_ta v6
    obtain ⟨k8, t8, _⟩ := dK_lf hn k7 v7.b (by omega)
    exact ⟨k8, dSV_le (dSV_lf v7) (by omega), by omega⟩
end
section
def dV2 (P : dP) (B : dB) (t : Nat) : dB := (dVo P B t).st t 7 (dLw P (dVo P B t) t)
theorem dB.st_id {B : dB} {i q : Nat} {v : Int32} (h : v = B.1 i q) : B.st i q v = B := by
  subst h
  have : (fun j k => if j = i ∧ k = q then B.1 i q else B.1 j k) = B.1 := by
    funext j k
    by_cases c : j = i ∧ k = q
    · rw [if_pos c, c.1, c.2]
    · rw [if_neg c]
  unfold dB.st
  rw [this]
theorem dLw_c {P : dP} {B B' : dB} {t : Nat} (h2 : B.1 t 2 = B'.1 t 2) (h3 : B.1 t 3 = B'.1 t 3) (h7 : B.1 t 7 = B'.1 t 7) : dLw P B t = dLw P B' t := by
  have e : (B.1 t 2 = 3 ∧ ¬ B.gd P t) ↔ (B'.1 t 2 = 3 ∧ ¬ B'.gd P t) := by
    unfold dB.gd
    rw [h2, h3]
  unfold dLw
  by_cases c : B.1 t 2 = 3 ∧ ¬ B.gd P t
  · rw [if_pos c, if_pos (e.mp c), h7]
  · rw [if_neg c, if_neg fun z => c (e.mpr z)]
theorem dLw_st {P : dP} {B : dB} {t q i : Nat} {v : Int32} (h : i ≠ t ∨ (q ≠ 2 ∧ q ≠ 3 ∧ q ≠ 7)) : dLw P (B.st i q v) t = dLw P B t :=
  dLw_c (dB.st_ne (by omega)) (dB.st_ne (by omega)) (dB.st_ne (by omega))
section E15
variable {α : Type} {μ : pxS} {P : dP} {B B1 B2 : dB} {Q : α → Prop}
theorem dM_4 {i : Nat} {v : Int32} (h : dM μ P B) : dM μ P (B.st i 4 v) := ⟨dMs_4 h.s, h.P⟩
/-- the end of a rail's turn: volts, how it rose, how long it is low -/
theorem dU_v273 {t a b : Nat} (h : dM μ P B) (hn : P.1 ≤ 12) (hi : t < P.1) (ha : a < 1000000) (hb : b < 1000000) : dw (Mo_voltsGo_n273 μ (dn t) (13 * dn t) (dn a) (dn b)) (fun τ => dM τ P (((B.st t 3 (dn b)).st t 4 (dn (b - a))).st t 7 (dLw P (B.st t 3 (dn b)) t)) ∧ τ (1, 34, 0) t = dn (b - a) ∧ (∀ i, i ≠ t → τ (1, 34, 0) i = μ (1, 34, 0) i) ∧ dG3 μ τ) := by
  unfold Mo_voltsGo_n273
  rw [show 13 * dn t + 1 = dn (13 * t + 1) from ix t 1, show 13 * dn t + 9 = dn (13 * t + 9) from ix t 9]
  refine du_st (3, 1) h hn hi (by decide) rfl fun μ1 h1 g1 => ?_
  change dM μ1 P (B.st t 3 (dn b)) at h1
  have key : ∀ (x : Int32), x = dn (b - a) → dw (px_gd (dn t) 12 (px_l (px_up μ1 (1, 34, 0) (dn t).toNatClampNeg x) fun σ8 =>
      px_b1 (F_Mo_state σ8 (dn t)) fun r9 =>
      (if r9 = 3 then px_b1 (F_Mo_isGood σ8 (dn t)) fun r12 =>
      (if r12 = 0 then px_gd (dn (13 * t + 9)) 308 (px_gd (dn (13 * t + 9)) 308 (px_l (px_up σ8 (1, 28, 0) (dn (13 * t + 9)).toNatClampNeg ((σ8 (1, 28, 0) (dn (13 * t + 9)).toNatClampNeg) + 1)) fun σ17 =>
      some σ17)) else px_gd (dn (13 * t + 9)) 308 (px_l (px_up σ8 (1, 28, 0) (dn (13 * t + 9)).toNatClampNeg 0) fun σ14 =>
      some σ14)) else px_gd (dn (13 * t + 9)) 308 (px_l (px_up σ8 (1, 28, 0) (dn (13 * t + 9)).toNatClampNeg 0) fun σ11 =>
      some σ11)))) (fun τ => dM τ P (((B.st t 3 (dn b)).st t 4 (dn (b - a))).st t 7 (dLw P (B.st t 3 (dn b)) t)) ∧ τ (1, 34, 0) t = dn (b - a) ∧ (∀ i, i ≠ t → τ (1, 34, 0) i = μ (1, 34, 0) i) ∧ dG3 μ τ) := fun x hx => by
    subst hx
    refine dw_gi (by omega) (by omega) ?_
    rw [dn_nat (show t < 2147483648 by omega), dw_l]
    have e28 : px_up μ1 (1, 34, 0) t (dn (b - a)) (1, 28, 0) = μ1 (1, 28, 0) := by funext y; simp [px_up]
    have e34 : px_up μ1 (1, 34, 0) t (dn (b - a)) (1, 34, 0) = du (μ (1, 34, 0)) t (dn (b - a)) := by
      rw [px_up_du, g1 _ (by simp [dmk])]
    have hg : dG3 μ1 (px_up μ1 (1, 34, 0) t (dn (b - a))) := fun j _ h34 _ => by funext y; simp [px_up, h34]
    have h2 : dM (px_up μ1 (1, 34, 0) t (dn (b - a))) P ((B.st t 3 (dn b)).st t 4 (dn (b - a))) := dM_4 ⟨by rw [e28]; exact h1.s, dMP_G3 hg h1.P⟩
    have hg2 := dG3_trans (dG3_of g1) hg
    generalize px_up μ1 (1, 34, 0) t (dn (b - a)) = τ at e34 h2 hg2
    have el : dLw P (B.st t 3 (dn b)) t = dLw P ((B.st t 3 (dn b)).st t 4 (dn (b - a))) t := (dLw_st (by omega)).symm
    rw [el]
    generalize (B.st t 3 (dn b)).st t 4 (dn (b - a)) = B3 at h2
    have fin : ∀ (τ' : pxS), dM τ' P (B3.st t 7 (dLw P B3 t)) → dG τ τ' → dM τ' P (B3.st t 7 (dLw P B3 t)) ∧ τ' (1, 34, 0) t = dn (b - a) ∧ (∀ i, i ≠ t → τ' (1, 34, 0) i = μ (1, 34, 0) i) ∧ dG3 μ τ' := fun τ' k1 k2 => by
      have e : τ' (1, 34, 0) = du (μ (1, 34, 0)) t (dn (b - a)) := by rw [k2 _ (by simp [dmk]), e34]
      exact ⟨k1, by rw [e, du_eq], fun i hi => by rw [e, du_ne hi], dG3_trans hg2 (dG3_of k2)⟩
    refine dw_v (dM_state h2 hn hi) (dw_ite (fun c => ?_) (fun c => ?_))
    · refine dw_v (dM_gd h2 hn hi) ?_
      by_cases c2 : B3.gd P t
      · rw [if_pos c2, if_neg (by decide)]
        refine du_st (7, 9) h2 hn hi (by decide) rfl fun τ1 k1 m1 => dw_some.mpr (fin τ1 ?_ m1)
        unfold dLw
        rw [if_neg fun z => z.2 c2]
        exact k1
      · rw [if_neg c2, if_pos rfl]
        refine dw_gi (by omega) (by omega) ?_
        rw [show τ (1, 28, 0) (dn (13 * t + 9)).toNatClampNeg = B3.1 t 7 from by rw [dn_nat (by omega)]; exact h2.s.f t hi (7, 9) (by decide)]
        refine du_st (7, 9) h2 hn hi (by decide) rfl fun τ1 k1 m1 => dw_some.mpr (fin τ1 ?_ m1)
        unfold dLw
        rw [if_pos ⟨c, c2⟩]
        exact k1
    · refine du_st (7, 9) h2 hn hi (by decide) rfl fun τ1 k1 m1 => dw_some.mpr (fin τ1 ?_ m1)
      unfold dLw
      rw [if_neg fun z => c z.1]
      exact k1
  by_cases c : b ≤ a
  · rw [if_pos (by rw [dn_le (by omega) (by omega)]; exact c)]
    exact key 0 (by rw [show b - a = 0 by omega]; rfl)
  · rw [if_neg (by rw [dn_le (by omega) (by omega)]; exact c)]
    exact key _ (dn_sub (by omega))
end E15
end
section
section E16
variable {α : Type} {μ : pxS} {P : dP} {B B1 B2 : dB} {Q : α → Prop}
/-- the row behind a rail's turn of volts -/
def dVU (μ : pxS) (P : dP) (B : dB) (t : Nat) (τ : pxS) : Prop := dM τ P (dV2 P B t) ∧ τ (1, 34, 0) t = (dV2 P B t).1 t 4 ∧ (∀ i, i ≠ t → τ (1, 34, 0) i = μ (1, 34, 0) i) ∧ dG3 μ τ
theorem dVU_of {μ1 : pxS} {t a b : Nat} (h : dM μ1 P B1) (g : dG μ μ1) (hn : P.1 ≤ 12) (hi : t < P.1) (ha : a < 1000000) (hb : b < 1000000) (e3 : B.1 t 3 = dn a) (ev : dVa P B t = B1.st t 3 (dn b)) : dw (Mo_voltsGo_n273 μ1 (dn t) (13 * dn t) (dn a) (dn b)) (dVU μ P B t) := by
  refine dw_mono (dU_v273 h hn hi ha hb) fun τ ⟨h1, h2, h3, h4⟩ => ?_
  have e : dV2 P B t = ((B1.st t 3 (dn b)).st t 4 (dn (b - a))).st t 7 (dLw P (B1.st t 3 (dn b)) t) := by
    unfold dV2 dVo
    rw [ev, dB.st_eq, e3, dDn_dn hb ha, dLw_st (by omega)]
  refine ⟨e ▸ h1, ?_, fun i hi => by rw [h3 i hi, g _ (by simp [dmk])], dG3_trans (dG3_of g) h4⟩
  rw [h2, e, dB.st_ne (Or.inr (by omega)), dB.st_eq]
theorem dOff_c {t : Nat} {v : Int32} : dOff P (B.st t 3 v) t = (dOff P B t).st t 3 v := by
  unfold dOff
  rw [dB.st_ne (Or.inr (by omega)), dB.st_ne (Or.inr (by omega))]
  by_cases c : B.1 t 12 = 0
  · rw [if_pos c, if_pos c, dB.st_cm (Or.inr (by omega))]; rfl
  · rw [if_neg c, if_neg c]
    by_cases c2 : P.2.2.2 14 4 ≤ B.1 t 10
    · rw [if_pos c2, if_pos c2, dB.st_cm (Or.inr (by omega))]; rfl
    · rw [if_neg c2, if_neg c2, dB.st_cm (i := t) (j := t) (q := 3) (r := 2) (Or.inr (by omega))]
      show (((B.st t 2 0).wr (dn t) 4).st t 3 v).st t 11 _ = _
      rw [dB.st_cm (Or.inr (by omega))]; rfl
theorem dU_vo {L t : Nat} (h : dM μ P B) (hP : dWP P) (hK : dWK P) (hB : dSV P L B) (hL : L < 900000) (hk : dK P B) (ht : B.2.2.2.1 < 100000) (hi : t < P.1) : dw (F_Mo_voltsGo μ (dn t)) (dVU μ P B t) := by
  have hn := hP.n
  have hwl := dL_len hB.b.w
  have hrl := dL_len hB.b.r
  have hll := hB.l
  obtain ⟨a, l, el, hal, hl1, hl9, ea⟩ := (hk.r t hi).v
  obtain ⟨r, hr1, hr9, er⟩ := hK.rp t hi
  obtain ⟨d, hd9, ed⟩ := hK.dr
  obtain ⟨f, hf9, ef⟩ := hK.fa
  have hov := (hk.r t hi).o
  have htr := (hk.r t hi).t
  have eu := dUp_dn ea er el (by omega) (by omega) (by omega)
  have e0 : dDn (B.1 t 3) (P.2.2.2 14 0) = dn (a - d) := by rw [ea, ed]; exact dDn_dn (by omega) (by omega)
  have e1 : dDn (B.1 t 3) (P.2.2.2 14 1) = dn (a - f) := by rw [ea, ef]; exact dDn_dn (by omega) (by omega)
  unfold F_Mo_voltsGo
  rw [show 13 * dn t + 1 = dn (13 * t + 1) from ix t 1, show 13 * dn t + 3 = dn (13 * t + 3) from ix t 3, show 13 * dn t + 10 = dn (13 * t + 10) from ix t 10, show 13 * dn t + 11 = dn (13 * t + 11) from ix t 11, show 13 * dn t + 12 = dn (13 * t + 12) from ix t 12]
  refine dw_gi (by omega) (by omega) (dw_v (dM_state h hn hi) ?_)
  rw [dn_nat (show 13 * t + 1 < 2147483648 by omega), dn_nat (show 13 * t + 3 < 2147483648 by omega), dn_nat (show 13 * t + 10 < 2147483648 by omega), dn_nat (show 13 * t + 11 < 2147483648 by omega), dn_nat (show 13 * t + 12 < 2147483648 by omega), dn_nat (show t < 2147483648 by omega)]
  rw [show μ (1, 28, 0) (13 * t + 1) = dn a from (h.s.f t hi (3, 1) (by decide)).trans ea, show μ (1, 28, 0) (13 * t + 3) = B.1 t 6 from h.s.f t hi (6, 3) (by decide), show μ (1, 7, 0) t = dn l from (h.P.a 2 (by omega) t hi).trans el, show μ (1, 8, 0) t = dn r from (h.P.a 3 (by omega) t hi).trans er, show μ (1, 3, 0) 3 = dn d from h.P.droop.trans ed, show μ (1, 3, 0) 4 = dn f from h.P.fall.trans ef, dn_add]
  have hg0 := dG_refl μ
  by_cases c : B.1 t 2 = 2
  · -- it rises
    rw [if_pos c]
    refine dw_gi (by omega) (by omega) (dw_gi (by omega) (by omega) ?_)
    -- comes up
    have up : ∀ x, x = l → l ≤ a + r → dw (px_b1 (F_Mo_state_ μ (dn t) 3) fun σ69 => px_b1 (F_Mo_logs σ69 (dn t) 1) fun σ70 => Mo_voltsGo_n273 σ70 (dn t) (13 * dn t) (dn a) (dn x)) (dVU μ P B t) := fun x hx hle => by
      subst hx
      refine du_T (dU_state h hn hi) fun μ1 h1 g1 => ?_
      refine du_T (dU_logs h1 hn (by show B.2.2.2.2.2.2.2.2.length < _; omega) (by show B.2.1.length ≤ 12; omega) (by show B.2.2.1.length ≤ 12; omega)) fun μ2 h2 g2 => ?_
      refine dVU_of h2 (dG_trans g1 g2) hn hi (by omega) (by omega) ea ?_
      unfold dVa
      rw [if_pos c, eu, show min (a + r) x = x by omega, if_pos el.symm]
      show ((B.st t 3 (dn x)).st t 2 3).wr (dn t) 1 = ((B.st t 2 3).wr (dn t) 1).st t 3 (dn x)
      rw [dB.st_cm (Or.inr (by omega))]; rfl
    by_cases c1 : l ≤ a + r
    · rw [if_pos (by rw [dn_le (by omega) (by omega)]; exact c1)]
      refine dw_gi (by omega) (by omega) (dw_gi (by omega) (by omega) ?_)
      rw [if_pos rfl]
      exact up l rfl c1
    · rw [if_neg (by rw [dn_le (by omega) (by omega)]; exact c1)]
      refine dw_gi (by omega) (by omega) (dw_gi (by omega) (by omega) ?_)
      rw [if_neg (by rw [dn_inj (by omega) (by omega)]; omega)]
      refine dVU_of h hg0 hn hi (by omega) (by omega) ea ?_
      unfold dVa
      rw [if_pos c, eu, show min (a + r) l = a + r by omega, if_neg (by rw [el, dn_inj (by omega) (by omega)]; omega)]
  · rw [if_neg c]
    refine dw_v (dM_state h hn hi) ?_
    by_cases c2 : B.1 t 2 = 3
    · -- it is up
      rw [if_pos c2]
      refine dw_gi (by omega) (by omega) ?_
      rcases hov with o | o
      · rw [if_neg (by rw [o]; decide)]
        refine dw_gi (by omega) (by omega) ?_
        have ev : dVa P B t = B.st t 3 (dn (min (a + r) l)) := by
          unfold dVa
          rw [if_neg c, if_pos c2, if_pos o, eu]
        rw [if_pos (show (0 : Int32) ≤ dn (a + r) from by rw [show (0 : Int32) = dn 0 from rfl, dn_le (by omega) (by omega)]; omega)]
        refine dw_gi (by omega) (by omega) ?_
        by_cases c1 : a + r ≤ l
        · rw [if_pos (by rw [dn_le (by omega) (by omega)]; exact c1)]
          exact dVU_of h hg0 hn hi (by omega) (by omega) ea (by rw [ev]; congr 2; omega)
        · rw [if_neg (by rw [dn_le (by omega) (by omega)]; exact c1)]
          refine dw_gi (by omega) (by omega) ?_
          exact dVU_of h hg0 hn hi (by omega) (by omega) ea (by rw [ev]; congr 2; omega)
      · rw [if_pos o]
        have ev : dVa P B t = B.st t 3 (dn (a - d)) := by
          unfold dVa
          rw [if_neg c, if_pos c2, if_neg (by rw [o]; decide), e0]
        by_cases c1 : d ≤ a
        · rw [dn_sub c1, if_pos (show (0 : Int32) ≤ dn (a - d) from by rw [show (0 : Int32) = dn 0 from rfl, dn_le (by omega) (by omega)]; omega)]
          refine dw_gi (by omega) (by omega) ?_
          rw [if_pos (by rw [dn_le (by omega) (by omega)]; omega)]
          exact dVU_of h hg0 hn hi (by omega) (by omega) ea ev
        · have e : (dn a - dn d).toInt = (a : Int) - d := by
            rw [Int32.toInt_sub, dn_toInt (by omega), dn_toInt (by omega), Int.bmod_eq_of_le (by omega) (by omega)]
          rw [if_neg (show ¬ (0 : Int32) ≤ dn a - dn d from by rw [Int32.le_iff_toInt_le, e]; simp; omega)]
          exact dVU_of (b := 0) h hg0 hn hi (by omega) (by omega) ea (by rw [ev]; congr 2; omega)
    · rw [if_neg c2]
      refine dw_v (dM_state h hn hi) ?_
      by_cases c4 : B.1 t 2 = 4
      · -- it falls
        rw [if_pos c4]
        have off : dDn (B.1 t 3) (P.2.2.2 14 1) = 0 → dw (px_b1 (F_Mo_state_ μ (dn t) 0) fun σ34 =>
  px_b1 (F_Mo_logs σ34 (dn t) 4) fun σ35 =>
  px_gd (dn (13 * t + 12)) 308 ((if (σ35 (1, 28, 0) (13 * t + 12)) = 1 then px_gd (dn (13 * t + 11)) 308 ((if (σ35 (1, 3, 0) 9) ≤ (σ35 (1, 28, 0) (13 * t + 11)) then Mo_voltsGo_n273 σ35 (dn t) (13 * dn t) (dn a) 0 else px_gd (dn (13 * t + 10)) 308 (px_l (px_up σ35 (1, 28, 0) (13 * t + 10) ((σ35 (1, 28, 0) 182) + (σ35 (1, 3, 0) 10))) fun σ39 =>
  Mo_voltsGo_n273 σ39 (dn t) (13 * dn t) (dn a) 0))) else Mo_voltsGo_n273 σ35 (dn t) (13 * dn t) (dn a) 0))) (dVU μ P B t) := fun z => by
          have ev : dVa P B t = (dOff P B t).st t 3 (dn 0) := by
            unfold dVa
            rw [if_neg c, if_neg c2, if_pos c4, if_pos z, z]
            exact dOff_c
          refine du_T (dU_state h hn hi) fun μ1 h1 g1 => ?_
          refine du_T (dU_logs h1 hn (by show B.2.2.2.2.2.2.2.2.length < _; omega) (by show B.2.1.length ≤ 12; omega) (by show B.2.2.1.length ≤ 12; omega)) fun μ2 h2 g2 => dw_gi (by omega) (by omega) ?_
          have g2 := dG_trans g1 g2
          rw [show μ2 (1, 28, 0) (13 * t + 12) = B.1 t 12 from (h2.s.f t hi (12, 12) (by decide)).trans (dB.st_ne (Or.inr (by decide))), show μ2 (1, 28, 0) (13 * t + 11) = B.1 t 10 from (h2.s.f t hi (10, 11) (by decide)).trans (dB.st_ne (Or.inr (by decide))), h2.P.times, h2.P.hold, h2.s.tick]
          change dw (if B.1 t 12 = 1 then _ else _) _
          rcases htr with o | o
          · rw [if_neg (by rw [o]; decide)]
            refine dVU_of (b := 0) h2 g2 hn hi (by omega) (by omega) ea ?_
            rw [ev]
            unfold dOff
            rw [if_pos o]
          · rw [if_pos o]
            refine dw_gi (by omega) (by omega) ?_
            by_cases c5 : P.2.2.2 14 4 ≤ B.1 t 10
            · rw [if_pos c5]
              refine dVU_of (b := 0) h2 g2 hn hi (by omega) (by omega) ea ?_
              rw [ev]
              unfold dOff
              rw [if_neg (by rw [o]; decide), if_pos c5]
            · rw [if_neg c5, dw_gd]
              refine ⟨⟨dn_nn (by omega), by rw [dn_nat (by omega)]; omega⟩, ?_⟩
              obtain ⟨x, x1, x2, ex⟩ := hK.ho
              have h3 : dM (px_up μ2 (1, 28, 0) (13 * t + 10) (dn B.2.2.2.1 + P.2.2.2 14 5)) P (((B.st t 2 0).wr (dn t) 4).st t 11 (dn B.2.2.2.1 + P.2.2.2 14 5)) := by
                refine ⟨?_, dMP_G (dG_up rfl) h2.P⟩
                rw [px_up_du]
                have ez : dn B.2.2.2.1 + P.2.2.2 14 5 = dAg (dn B.2.2.2.1 + P.2.2.2 14 5) := by
                  rw [ex, dn_add]
                  unfold dAg
                  rw [if_neg]
                  intro z
                  have := congrArg Int32.toInt z
                  rw [dn_toInt (by omega)] at this
                  have e2 : (-2 : Int32).toInt = -2 := by decide
                  rw [e2] at this
                  omega
                rw [ez]
                conv => rhs; rw [← ez]
                exact dMs_ag h2.s hn hi
              refine dVU_of (b := 0) h3 (dG_trans g2 (dG_up rfl)) hn hi (by omega) (by omega) ea ?_
              rw [ev]
              unfold dOff
              rw [if_neg (by rw [o]; decide), if_neg c5]
        by_cases c1 : a ≤ f
        · rw [if_pos (by rw [dn_le (by omega) (by omega)]; exact c1)]
          exact off (by rw [e1, show a - f = 0 by omega]; rfl)
        · rw [if_neg (by rw [dn_le (by omega) (by omega)]; exact c1), dn_sub (show f ≤ a by omega)]
          rw [if_neg (by rw [show (0 : Int32) = dn 0 from rfl, dn_inj (by omega) (by omega)]; omega)]
          refine dVU_of h hg0 hn hi (by omega) (by omega) ea ?_
          unfold dVa
          rw [if_neg c, if_neg c2, if_pos c4, e1, if_neg (by rw [show (0 : Int32) = dn 0 from rfl, dn_inj (by omega) (by omega)]; omega)]
      · rw [if_neg c4]
        refine dVU_of h hg0 hn hi (by omega) (by omega) ea ?_
        unfold dVa
        rw [if_neg c, if_neg c2, if_neg c4, dB.st_id ea.symm]
end E16
end
