section
section D9
variable {α : Type} {σ : pxS} {k p : Nat} {P : dP} {B B1 B2 : dB} {Q : α → Prop}
/-- how long it may have stayed at a step -/
def dSy (P : dP) (B : dB) : Prop := B.2.2.2.2.2.1 = 1 → B.2.2.2.2.2.2.1 < P.2.2.1 → (P.2.2.2 11 B.2.2.2.2.2.2.1 = 2 → B.2.2.2.2.2.2.2.1 ≤ (P.2.2.2 13 B.2.2.2.2.2.2.1).toNatClampNeg) ∧ (P.2.2.2 11 B.2.2.2.2.2.2.1 = 3 → B.2.2.2.2.2.2.2.1 < (P.2.2.2 13 B.2.2.2.2.2.2.1).toNatClampNeg)
/-- what the sequence's loop keeps -/
abbrev dSV (P : dP) (L : Nat) (B : dB) : Prop := (dWB P B) ∧ (B.2.2.2.2.2.2.1 ≤ P.2.2.1) ∧ (B.2.2.2.2.2.2.2.2.length ≤ L) ∧ (B.2.2.2.2.2.1 < 4) ∧ (B.2.2.2.2.2.2.2.1 ≤ 100) ∧ (dSy P B)
theorem dSV.b {P : dP} {L : Nat} {B : dB} (h0 : dSV P L B) : dWB P B := h0.1
theorem dSV.s {P : dP} {L : Nat} {B : dB} (h0 : dSV P L B) : B.2.2.2.2.2.2.1 ≤ P.2.2.1 := h0.2.1
theorem dSV.l {P : dP} {L : Nat} {B : dB} (h0 : dSV P L B) : B.2.2.2.2.2.2.2.2.length ≤ L := h0.2.2.1
theorem dSV.m {P : dP} {L : Nat} {B : dB} (h0 : dSV P L B) : B.2.2.2.2.2.1 < 4 := h0.2.2.2.1
theorem dSV.y {P : dP} {L : Nat} {B : dB} (h0 : dSV P L B) : B.2.2.2.2.2.2.2.1 ≤ 100 := h0.2.2.2.2.1
theorem dSV.z {P : dP} {L : Nat} {B : dB} (h0 : dSV P L B) : dSy P B := h0.2.2.2.2.2
theorem dSV_next {L : Nat} (hS : dWS P) (hn : P.1 ≤ 12) (h : dSV P L B) (hm : B.2.2.2.2.2.1 = 1) (hs : B.2.2.2.2.2.2.1 < P.2.2.1) (ht : (dStp P B).1 = true) : dSV P L (((dStp P B).2).1, ((dStp P B).2).2.1, ((dStp P B).2).2.2.1, ((dStp P B).2).2.2.2.1, ((dStp P B).2).2.2.2.2.1, ((dStp P B).2).2.2.2.2.2.1, (dStp P B).2.2.2.2.2.2.2.1 + 1, 0, ((dStp P B).2).2.2.2.2.2.2.2.2) := by
  obtain ⟨n1, n2, n3, n4, n5, n6⟩ := dStp_n (P := P) (B := B)
  obtain ⟨m1, m2⟩ := n6 ht
  exact ⟨dWB_md (dWB_stp hS hn h.b hs) rfl rfl rfl, by show (dStp P B).2.2.2.2.2.2.2.1 + 1 ≤ P.2.2.1; rw [n3]; exact hs, by show (dStp P B).2.2.2.2.2.2.2.2.2.length ≤ L; rw [m2]; exact h.l, by show (dStp P B).2.2.2.2.2.2.1 < 4; rw [m1]; exact h.m, by show 0 ≤ 100; omega, fun _ hs' => ⟨fun _ => Nat.zero_le _, fun h3 => by
    obtain ⟨_, _, t, s3, s4, s5⟩ := hS _ hs'
    dsimp only at h3 s4 s5 ⊢
    rw [s4, dn_nat (by omega)]
    exact s5 h3⟩⟩
theorem dT_sq (h : dC σ k p P B) (hP : dWP P) (hS : dWS P) (hp : p < 2) (hB : dWB P B) (hs : B.2.2.2.2.2.2.1 ≤ P.2.2.1) (hm : B.2.2.2.2.2.1 < 4) (hy : B.2.2.2.2.2.2.2.1 ≤ 100) (hz : dSy P B) (hl : B.2.2.2.2.2.2.2.2.length < 800000) : dT σ k p P (F_Bo_runSequence σ k) (dSq P 25 B) := by
  have hn := hP.n
  have hst := hP.st
  unfold F_Bo_runSequence
  refine dw_b1.mpr (dw_mono (P := fun e : Nat × pxS => dC e.2 k p P (dSq P 25 B) ∧ dF k σ e.2) ?_ fun e he => ?_)
  · refine dw_up 25 (by unfold px_N; omega) (fun t s => ∃ B1, s.1 = dn t ∧ dC s.2 k p P B1 ∧ dF k σ s.2 ∧ dSV P (B.2.2.2.2.2.2.2.2.length + t) B1 ∧ dSq P (25 - t) B1 = dSq P 25 B) (fun t s ht hI => ?_) (fun s hI => ?_) (Nat.zero_le _) ⟨B, rfl, h, dF_refl k σ, ⟨hB, hs, Nat.le_refl _, hm, hy, hz⟩, rfl⟩
    · obtain ⟨v, τ⟩ := s
      obtain ⟨B1, rfl, h1, h2, h3, h4⟩ := hI
      dsimp only at h1 h2
      show dw (Bo_runSequence_n2 τ k (dn t)) _
      unfold Bo_runSequence_n2
      rw [if_neg (by rw [show (24 : Int32) = dn 24 from rfl, dn_lt (by omega) (by omega)]; omega), h1.mode]
      rw [show 25 - t = (25 - (t + 1)) + 1 by omega, dSq] at h4
      have hm4 := h3.m
      have hll := h3.l
      have hyy := h3.y
      by_cases c : B1.2.2.2.2.2.1 = 1
      · rw [if_pos c] at h4
        rw [if_pos (by rw [c]; rfl)]
        have key : ∀ B2, dSV P (B.2.2.2.2.2.2.2.2.length + t) B1 → ¬ B1.2.2.2.2.2.2.1 < P.2.2.1 → dSq P (25 - (t + 1)) ((dB.wr (B1.1, B1.2.1, B1.2.2.1, B1.2.2.2.1, B1.2.2.2.2.1, 2, B1.2.2.2.2.2.2.1, B1.2.2.2.2.2.2.2.1, B1.2.2.2.2.2.2.2.2)) (-2) 6) = dSq P 25 B → dw (Bo_runSequence_n37 τ k (dn t)) (dR (fun s => ∃ B1, s.1 = dn (t + 1) ∧ dC s.2 k p P B1 ∧ dF k σ s.2 ∧ dSV P (B.2.2.2.2.2.2.2.2.length + (t + 1)) B1 ∧ dSq P (25 - (t + 1)) B1 = dSq P 25 B) B2) := fun B2 _ c2 h4 => by
          unfold Bo_runSequence_n37 Bo_runSequence_n79
          refine dw_bd (B1.1, B1.2.1, B1.2.2.1, B1.2.2.2.1, B1.2.2.2.2.1, 2, B1.2.2.2.2.2.2.1, B1.2.2.2.2.2.2.2.1, B1.2.2.2.2.2.2.2.2) h1 (by omega) ⟨rfl, rfl, rfl, rfl⟩ rfl rfl rfl rfl rfl fun τ1 g1 f1 => ?_
          refine dw_T (dT_wr g1 (by show B1.2.2.2.2.2.2.2.2.length < _; omega)) fun τ2 g2 f2 => ?_
          simp only [dw_some, dR_l]
          exact ⟨_, dn_suc t, g2, dF_trans h2 (dF_trans f1 f2), ⟨dWB_md h3.b rfl rfl rfl, h3.s, by show B1.2.2.2.2.2.2.2.2.length + 1 ≤ _; omega, by show 2 < 4; omega, hyy, fun (z : (2 : Nat) = 1) => absurd z (by omega)⟩, h4⟩
        by_cases c1 : B1.2.2.2.2.2.2.1 < P.2.2.1
        · rw [if_pos c1] at h4
          rw [h1.step, if_neg (dn_nn (by omega)), h1.hp, dn_nat (by omega), h1.P.st, if_pos (by rw [dn_lt (by omega) (by omega)]; exact c1), dw_b2]
          refine dw_mono (dT_stp h1 hP hS hp h3.b c1 (by omega) (by omega)) fun r hr => ?_
          obtain ⟨e1, g1, f1⟩ := hr
          rw [e1]
          have hstep : (dStp P B1).2.2.2.2.2.2.2.1 = B1.2.2.2.2.2.2.1 := dStp_n.2.2.1
          cases e : (dStp P B1).1 with
          | false =>
            have e' : dStp P B1 = (false, (dStp P B1).2) := by rw [← e]
            rw [e'] at h4
            dsimp only at h4
            rw [if_pos (by rfl)]
            simp only [dw_some, dR_r]
            rw [← h4]
            exact ⟨g1, dF_trans h2 f1⟩
          | true =>
            have e' : dStp P B1 = (true, (dStp P B1).2) := by rw [← e]
            rw [e'] at h4
            dsimp only at h4
            rw [if_neg (by decide), g1.step, dn_suc]
            have hv := dSV_next hS hn h3 c c1 e
            refine dw_bd (((dStp P B1).2).1, ((dStp P B1).2).2.1, ((dStp P B1).2).2.2.1, ((dStp P B1).2).2.2.2.1, ((dStp P B1).2).2.2.2.2.1, ((dStp P B1).2).2.2.2.2.2.1, (dStp P B1).2.2.2.2.2.2.2.1 + 1, ((dStp P B1).2).2.2.2.2.2.2.2.1, ((dStp P B1).2).2.2.2.2.2.2.2.2) g1 (by omega) ⟨rfl, rfl, rfl, rfl⟩ rfl rfl rfl rfl rfl fun τ1 g2 f2 => ?_
            refine dw_bd (((dStp P B1).2).1, ((dStp P B1).2).2.1, ((dStp P B1).2).2.2.1, ((dStp P B1).2).2.2.2.1, ((dStp P B1).2).2.2.2.2.1, ((dStp P B1).2).2.2.2.2.2.1, (dStp P B1).2.2.2.2.2.2.2.1 + 1, 0, ((dStp P B1).2).2.2.2.2.2.2.2.2) g2 (by omega) ⟨rfl, rfl, rfl, rfl⟩ rfl rfl rfl rfl rfl fun τ2 g3 f3 => ?_
            unfold Bo_runSequence_n79
            simp only [dw_some, dR_l]
            exact ⟨_, dn_suc t, g3, dF_trans h2 (dF_trans f1 (dF_trans f2 f3)), ⟨hv.b, hv.s, by have := hv.l; omega, hv.m, hv.y, hv.z⟩, h4⟩
        · rw [if_neg c1] at h4
          rw [h1.step]
          by_cases c2 : dn B1.2.2.2.2.2.2.1 < 0
          · rw [if_pos c2]; exact key _ h3 c1 h4
          · rw [if_neg c2, h1.hp, dn_nat (by omega), h1.P.st]
            by_cases c5 : dn B1.2.2.2.2.2.2.1 < dn P.2.2.1
            · have := h3.s
              rw [dn_lt (by omega) (by omega)] at c5
              exact absurd c5 c1
            · rw [if_neg c5]; exact key _ h3 c1 h4
      · rw [if_neg c] at h4
        rw [if_neg (by rw [show (1 : Int32) = dn 1 from rfl, dn_inj (by omega) (by omega)]; exact c)]
        simp only [dw_some, dR_r]
        rw [← h4]
        exact ⟨h1, h2⟩
    · obtain ⟨v, τ⟩ := s
      obtain ⟨B1, rfl, h1, h2, h3, h4⟩ := hI
      show dw (Bo_runSequence_n2 τ k (dn 25)) _
      unfold Bo_runSequence_n2
      rw [if_pos (by decide)]
      simp only [dw_some, dR_r]
      have h4 : B1 = dSq P 25 B := h4
      rw [← h4]
      exact ⟨h1, h2⟩
  · obtain ⟨a, τ⟩ := e
    by_cases c : a = 0
    · rw [if_pos c]; exact dw_some.mpr he
    · rw [if_neg c]; exact dw_some.mpr he
end D9
end
section
/-! who is good; who rises -/
def dGm (P : dP) (B : dB) : Nat → Int32
  | 0 => 0
  | t + 1 => if B.gd P t then dGm P B t ||| (1 <<< (dn t &&& 31)) else dGm P B t
theorem db_gm {P : dP} {B : dB} {i : Nat} : ∀ {t : Nat}, t ≤ 32 → db (dGm P B t) i = decide (i < t ∧ B.gd P i) := by
  intro t
  induction t with
  | zero => intro _; simp [dGm, db_zero]
  | succ t ih =>
    intro ht
    unfold dGm
    by_cases c : B.gd P t
    · rw [if_pos c, db_or, ih (by omega), db_one (by omega)]
      by_cases e : t = i
      · subst e; simp [c]
      · have : i < t + 1 ↔ i < t := by omega
        simp [e, this]
    · rw [if_neg c, ih (by omega)]
      by_cases e : i = t
      · subst e; simp [c]
      · have : i < t + 1 ↔ i < t := by omega
        simp [this]
def dHd (P : dP) (G : Int32) (i : Nat) : Int32 :=
  if P.2.2.2 1 i < 0 then (if P.2.2.2 7 i &&& (G ^^^ (-1)) = 0 then 0 else 2) else if (G >>> (P.2.2.2 1 i &&& 31)) &&& 1 = 0 then 1 else if P.2.2.2 7 i &&& (G ^^^ (-1)) = 0 then 0 else 2
def dB.rs (B : dB) (i : Nat) : dB := (((dB.st (B.1, dDrop B.2.1 i, B.2.2.1, B.2.2.2.1, B.2.2.2.2.1, B.2.2.2.2.2.1, B.2.2.2.2.2.2.1, B.2.2.2.2.2.2.2.1, B.2.2.2.2.2.2.2.2)) i 2 2).st i 8 (dn B.2.2.2.1)).wr (dn i) 0
def dRs (P : dP) (G : Int32) : List Nat → dB → dB
  | [], B => B
  | i :: l, B => dRs P G l (if dHd P G i = 0 then B.rs i else B)
def dBR (P : dP) (B : dB) : dB := dRs P (dGm P B P.1) B.2.1 B
theorem dWB_rs {P : dP} {B : dB} {i : Nat} (h : dWB P B) (h1 : B.1 i 2 = 1) : dWB P (B.rs i) := by
  have hf : ∀ j, (B.rs i).1 j 2 = if j = i then 2 else B.1 j 2 := fun j => by
    show ((((dB.st (B.1, dDrop B.2.1 i, B.2.2.1, B.2.2.2.1, B.2.2.2.2.1, B.2.2.2.2.2.1, B.2.2.2.2.2.2.1, B.2.2.2.2.2.2.2.1, B.2.2.2.2.2.2.2.2)) i 2 2).st i 8 (dn B.2.2.2.1))).1 j 2 = _
    rw [dB.st_ne (Or.inr (by omega))]
    by_cases e : j = i
    · subst e; rw [dB.st_eq, if_pos rfl]
    · rw [dB.st_ne (Or.inl e), if_neg e]
  refine ⟨dL_drop h.w, h.r, fun j hj => ?_, fun j hj => ?_⟩
  · rw [hf]
    by_cases e : j = i
    · subst e; rw [if_pos rfl]; simp [dB.rs, dB.wr, dB.st, dDrop]
    · rw [if_neg e, h.ws j hj]; simp [dB.rs, dB.wr, dB.st, dDrop, e]
  · have hj : j ∈ B.2.2.1 := hj
    have ho := h.ro j hj
    unfold dB.on
    rw [hf]
    by_cases e : j = i
    · rw [if_pos e]; exact Or.inl rfl
    · rw [if_neg e]; exact ho
section D10
variable {α : Type} {σ : pxS} {k p : Nat} {P : dP} {B B1 B2 : dB} {Q : α → Prop}
theorem dC_gm (h : dC σ k p P B) (hP : dWP P) (hp : p < 2) : F_Bo_goodRails σ k = some (dGm P B P.1) := by
  have hn := hP.n
  suffices hh : dw (F_Bo_goodRails σ k) (fun r => r = dGm P B P.1) by
    obtain ⟨a, e, rfl⟩ := hh; exact e
  unfold F_Bo_goodRails
  rw [dw_b1]
  refine dw_up P.1 (by unfold px_N; omega) (fun t s => s.1 = dGm P B t ∧ s.2 = dn t) (fun t s ht hI => ?_) (fun s hI => ?_) (Nat.zero_le _) ⟨rfl, rfl⟩
  · obtain ⟨v3, v4⟩ := s
    obtain ⟨rfl, rfl⟩ := hI
    show dw (Bo_goodRails_n4 σ k _ _) _
    unfold Bo_goodRails_n4 Bo_goodRails_n29
    rw [dC_n h hp, if_neg (by rw [dn_le (by omega) (by omega)]; omega)]
    refine dw_v (dC_gd h hP hp ht) ?_
    by_cases c : B.gd P t
    · rw [if_pos c, if_neg (by decide)]
      simp only [dw_some, dR_l]
      exact ⟨by rw [dGm, if_pos c], dn_suc t⟩
    · rw [if_neg c, if_pos rfl]
      simp only [dw_some, dR_l]
      exact ⟨by rw [dGm, if_neg c], dn_suc t⟩
  · obtain ⟨v3, v4⟩ := s
    obtain ⟨rfl, rfl⟩ := hI
    show dw (Bo_goodRails_n4 σ k _ _) _
    unfold Bo_goodRails_n4
    rw [dC_n h hp, if_pos (by rw [dn_le (by omega) (by omega)]; omega)]
    simp only [dw_some, dR_r]
theorem dC_hd {G : Int32} {i : Nat} (h : dC σ k p P B) (hP : dWP P) (hp : p < 2) (hi : i < P.1) : F_Bo_heldBy σ k (dn i) G = some (dHd P G i) := by
  have hn := hP.n
  unfold F_Bo_heldBy Bo_heldBy_n30 dHd
  have hg : ¬ dn i < 0 ∧ (dn i).toNatClampNeg < 12 := ⟨dn_nn (by omega), by rw [dn_nat (by omega)]; omega⟩
  unfold px_gd
  simp only [if_pos hg]
  rw [dn_nat (by omega), h.hp, dn_nat (by omega), h.P.a 1 (by omega) i hi, h.P.a 7 (by omega) i hi]
  by_cases c1 : P.2.2.2 1 i < 0
  · rw [if_pos c1, if_pos c1]
    by_cases c2 : P.2.2.2 7 i &&& (G ^^^ (-1)) = 0
    · rw [if_pos c2, if_pos c2]
    · rw [if_neg c2, if_neg c2]
  · rw [if_neg c1, if_neg c1]
    by_cases c3 : (G >>> (P.2.2.2 1 i &&& 31)) &&& 1 = 0
    · rw [if_pos c3, if_pos c3]
    · rw [if_neg c3, if_neg c3]
      by_cases c2 : P.2.2.2 7 i &&& (G ^^^ (-1)) = 0
      · rw [if_pos c2, if_pos c2]
      · rw [if_neg c2, if_neg c2]
theorem dC_at {l : List Nat} {w t : Nat} (h : dQ σ k w l) (hl : l.length ≤ 12) (ht : t < l.length) : F_Qu_at σ k w (dn t) = some (dn l[t]) := by
  unfold F_Qu_at
  rw [if_neg (dn_nn (by omega)), h.s, if_neg (by rw [dn_le (by omega) (by omega)]; omega), if_neg (by rw [show (12 : Int32) = dn 12 from rfl, dn_le (by omega) (by omega)]; omega)]
  unfold px_gd
  rw [if_pos ⟨dn_nn (by omega), by rw [dn_nat (by omega)]; omega⟩, dn_nat (by omega), h.i t ht]
theorem dC_at2 {l : List Nat} {w t : Nat} (h : dQ σ k w l) (hl : l.length ≤ 12) (ht : ¬ t < l.length) (h2 : t < 2147483648) : F_Qu_at σ k w (dn t) = some (-2) := by
  unfold F_Qu_at
  rw [if_neg (dn_nn (by omega)), h.s, if_pos (by rw [dn_le (by omega) (by omega)]; omega)]
  rfl
theorem dDrop_mid {a b : List Nat} {i n : Nat} (h : dL n (a ++ i :: b)) : dDrop (a ++ i :: b) i = a ++ b := by
  have hnd := h.1
  rw [List.nodup_append] at hnd
  obtain ⟨h1, h2, h3⟩ := hnd
  have h2 := List.nodup_cons.mp h2
  unfold dDrop
  rw [List.filter_append, List.filter_cons, if_neg (by simp), List.filter_eq_self.mpr (fun x hx => by simp; exact fun e => h3 x hx i (by simp) e), List.filter_eq_self.mpr (fun x hx => by simp; exact fun e => h2.1 (e ▸ hx))]
theorem dT_br (h : dC σ k p P B) (hP : dWP P) (hp : p < 2) (hB : dWB P B) (hl : B.2.2.2.2.2.2.2.2.length < 900000) : dT σ k p P (F_Bo_beginToRise σ k) (dBR P B) := by
  have hn := hP.n
  unfold F_Bo_beginToRise dBR
  refine dT_v (dC_gm h hP hp) ?_
  generalize dGm P B P.1 = G
  refine dT_b ?_ fun τ h' => dT_some h'
  have hw0 := dL_len hB.w
  refine dw_up 12 (by unfold px_N; omega) (fun t s => ∃ kept rest B1, s.1 = dn kept.length ∧ s.2.1 = dn t ∧ dC s.2.2 k p P B1 ∧ dF k σ s.2.2 ∧ B1.2.1 = kept ++ rest ∧ dWB P B1 ∧ rest.length + t ≤ 12 ∧ B1.2.2.2.2.2.2.2.2.length ≤ B.2.2.2.2.2.2.2.2.length + t ∧ dRs P G rest B1 = dRs P G B.2.1 B) (fun t s ht hI => ?_) (fun s hI => ?_) (Nat.zero_le _) ⟨[], B.2.1, B, rfl, rfl, h, dF_refl k σ, rfl, hB, by omega, Nat.le_refl _, rfl⟩
  · obtain ⟨v2, v3, τ⟩ := s
    obtain ⟨kept, rest, B1, rfl, rfl, h1, h2, h3, h4, h5, h6, h7⟩ := hI
    dsimp only at h1 h2
    have hwl := dL_len h4.w
    show dw (Bo_beginToRise_n9 τ k G _ _) _
    unfold Bo_beginToRise_n9 Bo_beginToRise_n95 Bo_beginToRise_n98
    rw [if_neg (by rw [show (12 : Int32) = dn 12 from rfl, dn_le (by omega) (by omega)]; omega), h1.w.s, h3]
    rw [h3] at hwl
    rw [List.length_append] at hwl
    cases rest with
    | nil =>
      rw [if_pos (by rw [List.append_nil, dn_le (by omega) (by omega)]; omega)]
      simp only [dw_some, dR_r]
      rw [← h7]
      exact ⟨h1, h2⟩
    | cons i rest =>
      have hlen : kept.length < B1.2.1.length := by rw [h3, List.length_append, List.length_cons]; omega
      have hat : B1.2.1[kept.length] = i := by simp [h3]
      have hi : i ∈ B1.2.1 := by rw [h3]; simp
      have hin := h4.w.2 i hi
      rw [List.length_cons] at hwl h5
      rw [List.length_append, List.length_cons, if_neg (by rw [dn_le (by omega) (by omega)]; omega)]
      refine dw_v (dC_at h1.w (by rw [h3, List.length_append, List.length_cons]; omega) hlen) ?_
      rw [hat, if_neg (dn_nn (by omega))]
      refine dw_v (dC_hd h1 hP hp hin) ?_
      rw [dRs] at h7
      by_cases c : dHd P G i = 0
      · rw [if_pos c] at h7 ⊢
        have hd : dDrop B1.2.1 i = kept ++ rest := by
          rw [h3]; exact dDrop_mid (n := P.1) (by rw [← h3]; exact h4.w)
        refine dw_T (dT_wdrop h1 h4.w hn hin) fun τ1 g1 f1 => dw_gi (by omega) (by omega) ?_
        rw [dn_nat (by omega)]
        refine dw_st g1 fun τ2 g2 f2 => dw_gi (by omega) (by omega) ?_
        rw [g2.tick]
        refine dw_st g2 fun τ3 g3 f3 => ?_
        refine dw_T (dT_wr g3 (by show B1.2.2.2.2.2.2.2.2.length < _; omega)) fun τ4 g4 f4 => ?_
        simp only [dw_some, dR_l]
        exact ⟨kept, rest, B1.rs i, rfl, dn_suc t, g4, dF_trans h2 (dF_trans f1 (dF_trans f2 (dF_trans f3 f4))), hd, dWB_rs h4 ((h4.ws i hin).mpr hi), by omega, by show B1.2.2.2.2.2.2.2.2.length + 1 ≤ _; omega, h7⟩
      · rw [if_neg c] at h7 ⊢
        simp only [dw_some, dR_l]
        exact ⟨kept ++ [i], rest, B1, by rw [dn_suc]; simp, dn_suc t, h1, h2, by rw [h3]; simp, h4, by omega, by omega, h7⟩
  · obtain ⟨v2, v3, τ⟩ := s
    obtain ⟨kept, rest, B1, rfl, rfl, h1, h2, h3, h4, h5, h6, h7⟩ := hI
    show dw (Bo_beginToRise_n9 τ k G _ _) _
    unfold Bo_beginToRise_n9
    rw [if_pos (by rw [show (12 : Int32) = dn 12 from rfl, dn_le (by omega) (by omega)]; omega)]
    simp only [dw_some, dR_r]
    have : rest = [] := List.eq_nil_of_length_eq_zero (by omega)
    subst this
    rw [← h7]
    exact ⟨h1, h2⟩
end D10
end
section
/-! volts -/
def dOff (P : dP) (B : dB) (t : Nat) : dB :=
  if B.1 t 12 = 0 then (B.st t 2 0).wr (dn t) 4 else if P.2.2.2 14 4 ≤ B.1 t 10 then (B.st t 2 0).wr (dn t) 4 else ((B.st t 2 0).wr (dn t) 4).st t 11 (dn B.2.2.2.1 + P.2.2.2 14 5)
def dUp (P : dP) (B : dB) (t : Nat) : Int32 := if B.1 t 3 + P.2.2.2 3 t < P.2.2.2 2 t then B.1 t 3 + P.2.2.2 3 t else P.2.2.2 2 t
def dDn (x y : Int32) : Int32 := if 0 < x - y then x - y else 0
def dVa (P : dP) (B : dB) (t : Nat) : dB :=
  if B.1 t 2 = 2 then (if dUp P B t = P.2.2.2 2 t then ((B.st t 3 (dUp P B t)).st t 2 3).wr (dn t) 1 else B.st t 3 (dUp P B t))
  else if B.1 t 2 = 3 then (if B.1 t 6 = 0 then B.st t 3 (dUp P B t) else B.st t 3 (dDn (B.1 t 3) (P.2.2.2 14 0)))
  else if B.1 t 2 = 4 then (if dDn (B.1 t 3) (P.2.2.2 14 1) = 0 then dOff P (B.st t 3 (dDn (B.1 t 3) (P.2.2.2 14 1))) t else B.st t 3 (dDn (B.1 t 3) (P.2.2.2 14 1)))
  else B
def dVo (P : dP) (B : dB) (t : Nat) : dB := (dVa P B t).st t 4 (dDn ((dVa P B t).1 t 3) (B.1 t 3))
def dMV (P : dP) (B : dB) : dB := dFo (dVo P) P.1 B
theorem dSV_st {P : dP} {L : Nat} {B : dB} {i q : Nat} {v : Int32} (h : dSV P L B) (hq : q ≠ 2) : dSV P L (B.st i q v) := ⟨dWB_st h.b hq, h.s, h.l, h.m, h.y, h.z⟩
theorem dSV_wr {P : dP} {L : Nat} {B : dB} {r w : Int32} (h : dSV P L B) : dSV P (L + 1) (B.wr r w) := ⟨dWB_wr h.b, h.s, by have := h.l; show B.2.2.2.2.2.2.2.2.length + 1 ≤ _; omega, h.m, h.y, h.z⟩
theorem dSV_le {P : dP} {L L' : Nat} {B : dB} (h : dSV P L B) (hL : L ≤ L') : dSV P L' B := ⟨h.b, h.s, Nat.le_trans h.l hL, h.m, h.y, h.z⟩
/-- a state that neither waits nor did -/
theorem dWB_s2 {P : dP} {B : dB} {i : Nat} {v : Int32} (h : dWB P B) (h1 : ¬ B.1 i 2 = 1) (hv : ¬ v = 1) (ho : i ∈ B.2.2.1 → v = 2 ∨ v = 3) : dWB P (B.st i 2 v) := by
  refine ⟨h.w, h.r, fun j hj => ?_, fun j hj => ?_⟩
  · by_cases e : j = i
    · subst e
      rw [dB.st_eq]
      have := h.ws j hj
      constructor
      · intro z; exact absurd z hv
      · intro z; exact absurd (this.mpr z) h1
    · rw [dB.st_ne (Or.inl e)]; exact h.ws j hj
  · by_cases e : j = i
    · subst e
      unfold dB.on
      rw [dB.st_eq]; exact ho hj
    · unfold dB.on
      rw [dB.st_ne (Or.inl e)]; exact h.ro j hj
theorem dSV_s2 {P : dP} {L : Nat} {B : dB} {i : Nat} {v : Int32} (h : dSV P L B) (h1 : ¬ B.1 i 2 = 1) (hv : ¬ v = 1) (ho : i ∈ B.2.2.1 → v = 2 ∨ v = 3) : dSV P L (B.st i 2 v) := ⟨dWB_s2 h.b h1 hv ho, h.s, h.l, h.m, h.y, h.z⟩
theorem dSV_off {P : dP} {L : Nat} {B : dB} {t : Nat} (h : dSV P L B) (h4 : B.1 t 2 = 4) : dSV P (L + 1) (dOff P B t) := by
  have hr : t ∉ B.2.2.1 := fun hm => by
    rcases h.b.ro t hm with z | z <;> rw [h4] at z <;> exact absurd z (by decide)
  have h1 : dSV P (L + 1) ((B.st t 2 0).wr (dn t) 4) := dSV_wr (dSV_s2 h (by rw [h4]; decide) (by decide) fun hm => absurd hm hr)
  unfold dOff
  by_cases c : B.1 t 12 = 0
  · rw [if_pos c]; exact h1
  · rw [if_neg c]
    by_cases c2 : P.2.2.2 14 4 ≤ B.1 t 10
    · rw [if_pos c2]; exact h1
    · rw [if_neg c2]; exact dSV_st h1 (by omega)
theorem dSV_vo {P : dP} {L : Nat} {B : dB} {t : Nat} (h : dSV P L B) : dSV P (L + 1) (dVo P B t) := by
  unfold dVo
  refine dSV_st ?_ (by omega)
  unfold dVa
  have h0 : dSV P (L + 1) B := dSV_le h (by omega)
  by_cases c : B.1 t 2 = 2
  · rw [if_pos c]
    by_cases c1 : dUp P B t = P.2.2.2 2 t
    · rw [if_pos c1]
      exact dSV_wr (dSV_s2 (dSV_st h (by omega)) (by rw [dB.st_ne (Or.inr (by omega)), c]; decide) (by decide) fun _ => Or.inr rfl)
    · rw [if_neg c1]; exact dSV_st h0 (by omega)
  · rw [if_neg c]
    by_cases c2 : B.1 t 2 = 3
    · rw [if_pos c2]
      by_cases c3 : B.1 t 6 = 0
      · rw [if_pos c3]; exact dSV_st h0 (by omega)
      · rw [if_neg c3]; exact dSV_st h0 (by omega)
    · rw [if_neg c2]
      by_cases c4 : B.1 t 2 = 4
      · rw [if_pos c4]
        by_cases c5 : dDn (B.1 t 3) (P.2.2.2 14 1) = 0
        · rw [if_pos c5]; exact dSV_off (dSV_st h (by omega)) (by rw [dB.st_ne (Or.inr (by omega))]; exact c4)
        · rw [if_neg c5]; exact dSV_st h0 (by omega)
      · rw [if_neg c4]; exact h0
section D11
variable {α : Type} {σ : pxS} {k p : Nat} {P : dP} {B B1 B2 : dB} {Q : α → Prop}
theorem dT_off {t : Nat} (h : dC σ k p P B) (hP : dWP P) (hp : p < 2) (ht : t < P.1) (hl : B.2.2.2.2.2.2.2.2.length < 1000000) : dT σ k p P (F_Bo_goOff σ k (dn t)) (dOff P B t) := by
  have hn := hP.n
  unfold F_Bo_goOff dOff
  refine dT_gi ht hP ?_
  rw [dn_nat (by omega)]
  refine dT_st h fun τ1 h1 => dT_b (dT_wr h1 hl) fun τ2 h2 => ?_
  rw [h2.f t ht 12 (by omega), h2.f t ht 10 (by omega), h2.hp, dn_nat (by omega), h2.P.e 4 (by omega), h2.P.e 5 (by omega), h2.tick]
  have e1 : ((B.st t 2 0).wr (dn t) 4).1 t 12 = B.1 t 12 := dB.st_ne (Or.inr (by omega))
  have e2 : ((B.st t 2 0).wr (dn t) 4).1 t 10 = B.1 t 10 := dB.st_ne (Or.inr (by omega))
  rw [e1, e2]
  by_cases c : B.1 t 12 = 0
  · rw [if_pos c, if_pos c]; exact dT_some h2
  · rw [if_neg c, if_neg c]
    by_cases c2 : P.2.2.2 14 4 ≤ B.1 t 10
    · rw [if_pos c2, if_pos c2]; exact dT_some h2
    · rw [if_neg c2, if_neg c2]
      exact dT_st h2 fun τ3 h3 => dT_some h3
theorem dT_mv (h : dC σ k p P B) (hP : dWP P) (hp : p < 2) (hB : dSV P 800000 B) : dT σ k p P (F_Bo_moveVolts σ k) (dMV P B) := by
  have hn := hP.n
  unfold F_Bo_moveVolts dMV
  refine dT_b ?_ fun τ h' => dT_some h'
  have inv := dFo_inv (g := dVo P) (I := fun t B' => dSV P (800000 + t) B') (n := P.1) (B := B) hB (fun t B' _ h1 => dSV_vo h1)
  refine dT_for P.1 (by unfold px_N; omega) (fun t => dFo (dVo P) t B) h (fun t τ ht hτ => ?_) (fun τ hτ => ?_)
  · have hW := inv t (by omega)
    show dw (Bo_moveVolts_n2 τ k (dn t)) (dR (fun s => s.1 = dn (t + 1) ∧ dC s.2 k p P (dVo P (dFo (dVo P) t B) t) ∧ dF k τ s.2) _)
    generalize dFo (dVo P) t B = B at hτ hW
    have hll := hW.l
    unfold Bo_moveVolts_n2
    rw [dC_n hτ hp, if_neg (by rw [dn_le (by omega) (by omega)]; omega)]
    refine dw_gi (by omega) (by omega) (dw_gi (by omega) (by omega) (dw_gi (by omega) (by omega) ?_))
    have key : ∀ {τ' : pxS} {B' : dB}, dC τ' k p P B' → dF k τ τ' → dw (Bo_moveVolts_n182 τ' k (dn t) k t (B.1 t 3)) (dR (fun s => s.1 = dn (t + 1) ∧ dC s.2 k p P (B'.st t 4 (dDn (B'.1 t 3) (B.1 t 3))) ∧ dF k τ s.2) (fun _ => False)) := fun {τ' B'} g f => by
      unfold Bo_moveVolts_n182
      rw [g.f t ht 3 (by omega)]
      refine dw_st g fun τ1 g1 f1 => ?_
      simp only [dw_some, dR_l]
      exact ⟨dn_suc t, g1, dF_trans f f1⟩
    rw [dn_nat (by omega), hτ.f t ht 2 (by omega), hτ.f t ht 3 (by omega), hτ.f t ht 6 (by omega), hτ.hp, dn_nat (by omega), hτ.P.a 2 (by omega) t ht, hτ.P.a 3 (by omega) t ht, hτ.P.e 0 (by omega), hτ.P.e 1 (by omega)]
    unfold dVo dVa
    change dw (if B.1 t 2 = 2 then px_l (px_up τ (3, k, t) 3 (dUp P B t)) fun σ6 => px_gd (dn t) 12 (if dUp P B t = σ6 (8, (σ6 (2, k, 0) 4).toNatClampNeg, 2) t then _ else _) else if B.1 t 2 = 3 then if B.1 t 6 = 0 then px_l (px_up τ (3, k, t) 3 (dUp P B t)) _ else px_l (px_up τ (3, k, t) 3 (dDn (B.1 t 3) (P.2.2.2 14 0))) _ else if B.1 t 2 = 4 then px_l (px_up τ (3, k, t) 3 (dDn (B.1 t 3) (P.2.2.2 14 1))) _ else _) _
    by_cases c : B.1 t 2 = 2
    · rw [if_pos c, if_pos c]
      refine dw_st hτ fun τ1 g1 f1 => dw_gi (by omega) (by omega) ?_
      rw [g1.hp, dn_nat (by omega), g1.P.a 2 (by omega) t ht]
      by_cases c1 : dUp P B t = P.2.2.2 2 t
      · rw [if_pos c1, if_pos c1]
        refine dw_st g1 fun τ2 g2 f2 => dw_T (dT_wr g2 (by show B.2.2.2.2.2.2.2.2.length < _; omega)) fun τ3 g3 f3 => ?_
        exact key g3 (dF_trans f1 (dF_trans f2 f3))
      · rw [if_neg c1, if_neg c1]
        exact key g1 f1
    · rw [if_neg c, if_neg c]
      by_cases c2 : B.1 t 2 = 3
      · rw [if_pos c2, if_pos c2]
        by_cases c3 : B.1 t 6 = 0
        · rw [if_pos c3, if_pos c3]
          exact dw_st hτ fun τ1 g1 f1 => key g1 f1
        · rw [if_neg c3, if_neg c3]
          exact dw_st hτ fun τ1 g1 f1 => key g1 f1
      · rw [if_neg c2, if_neg c2]
        by_cases c4 : B.1 t 2 = 4
        · rw [if_pos c4, if_pos c4]
          refine dw_st hτ fun τ1 g1 f1 => ?_
          rw [g1.f t ht 3 (by omega), dB.st_eq]
          by_cases c5 : dDn (B.1 t 3) (P.2.2.2 14 1) = 0
          · rw [if_pos c5, if_pos c5]
            exact dw_T (dT_off g1 hP hp ht (by show B.2.2.2.2.2.2.2.2.length < _; omega)) fun τ2 g2 f2 => key g2 (dF_trans f1 f2)
          · rw [if_neg c5, if_neg c5]
            exact key g1 f1
        · rw [if_neg c4, if_neg c4]
          exact key hτ (dF_refl k τ)
  · show Bo_moveVolts_n2 τ k (dn P.1) = _
    unfold Bo_moveVolts_n2
    rw [dC_n hτ hp, if_pos (by rw [dn_le (by omega) (by omega)]; omega)]
end D11
end
section
/-- a plan's numbers as they must be -/
abbrev dWV (P : dP) : Prop := (∀ i, i < P.1 → 1 ≤ (P.2.2.2 2 i).toInt ∧ (P.2.2.2 2 i).toInt ≤ 9999) ∧ (∀ i, i < P.1 → P.2.2.2 1 i = -2 ∨ ∃ j, j < i ∧ P.2.2.2 1 i = dn j) ∧ (1 ≤ (P.2.2.2 14 3).toInt)
theorem dWV.lv {P : dP} (h0 : dWV P) : ∀ i, i < P.1 → 1 ≤ (P.2.2.2 2 i).toInt ∧ (P.2.2.2 2 i).toInt ≤ 9999 := h0.1
theorem dWV.pr {P : dP} (h0 : dWV P) : ∀ i, i < P.1 → P.2.2.2 1 i = -2 ∨ ∃ j, j < i ∧ P.2.2.2 1 i = dn j := h0.2.1
theorem dWV.fi {P : dP} (h0 : dWV P) : 1 ≤ (P.2.2.2 14 3).toInt := h0.2.2
/-! draws -/
def dD1 (P : dP) (B : dB) (i : Nat) : dB := if B.on i then B.st i 5 (B.1 i 5 + B.1 i 0 * B.1 i 3 / P.2.2.2 2 i) else B
def dD2 (P : dP) (B : dB) (i : Nat) : dB := B.st i 5 (B.1 i 5 + P.2.2.2 4 i * B.1 i 4 / 16)
def dD3 (B : dB) (i : Nat) : dB := B.st i 6 (if B.1 i 5 ≤ B.1 i 1 then 0 else 1)
def dD4 (P : dP) (B : dB) (i : Nat) : dB := if P.2.2.2 1 i < 0 then (B.1, B.2.1, B.2.2.1, B.2.2.2.1, B.2.2.2.2.1 + B.1 i 5, B.2.2.2.2.2.1, B.2.2.2.2.2.2.1, B.2.2.2.2.2.2.2.1, B.2.2.2.2.2.2.2.2) else B.st (P.2.2.2 1 i).toNatClampNeg 5 (B.1 (P.2.2.2 1 i).toNatClampNeg 5 + B.1 i 5)
def dDr (P : dP) (B : dB) (i : Nat) : dB := dD4 P (dD3 (dD2 P (dD1 P B i) i) i) i
def dMD (P : dP) (B : dB) : dB := dFo (fun B t => dDr P B (P.1 - 1 - t)) P.1 (dFo (fun B t => B.st t 5 0) P.1 (B.1, B.2.1, B.2.2.1, B.2.2.2.1, 0, B.2.2.2.2.2.1, B.2.2.2.2.2.2.1, B.2.2.2.2.2.2.2.1, B.2.2.2.2.2.2.2.2))
theorem dSV_md {P : dP} {L : Nat} {B B' : dB} (h : dSV P L B) (hf : B'.1 = B.1) (hw : B'.2.1 = B.2.1) (hr : B'.2.2.1 = B.2.2.1) (hs : B'.2.2.2.2.2.2.1 = B.2.2.2.2.2.2.1) (hl : B'.2.2.2.2.2.2.2.2 = B.2.2.2.2.2.2.2.2) (hm : B'.2.2.2.2.2.1 = B.2.2.2.2.2.1) (hy : B'.2.2.2.2.2.2.2.1 = B.2.2.2.2.2.2.2.1) : dSV P L B' :=
  ⟨dWB_md h.b hf hw hr, by rw [hs]; exact h.s, by rw [hl]; exact h.l, by rw [hm]; exact h.m, by rw [hy]; exact h.y, by unfold dSy; rw [hm, hs, hy]; exact h.z⟩
theorem dSV_dr {P : dP} {L : Nat} {B : dB} {i : Nat} (h : dSV P L B) : dSV P L (dDr P B i) := by
  have h1 : dSV P L (dD1 P B i) := by
    unfold dD1
    by_cases c : B.on i
    · rw [if_pos c]; exact dSV_st h (by omega)
    · rw [if_neg c]; exact h
  have h3 : dSV P L (dD3 (dD2 P (dD1 P B i) i) i) := dSV_st (dSV_st h1 (by omega)) (by omega)
  unfold dDr dD4
  by_cases c : P.2.2.2 1 i < 0
  · rw [if_pos c]; exact dSV_md h3 rfl rfl rfl rfl rfl rfl rfl
  · rw [if_neg c]; exact dSV_st h3 (by omega)
theorem dSV_mD {P : dP} {L : Nat} {B : dB} (h : dSV P L B) : dSV P L (dMD P B) := by
  have h1 := dFo_inv (g := fun B t => B.st t 5 0) (I := fun _ B' => dSV P L B') (n := P.1) (B := (B.1, B.2.1, B.2.2.1, B.2.2.2.1, 0, B.2.2.2.2.2.1, B.2.2.2.2.2.2.1, B.2.2.2.2.2.2.2.1, B.2.2.2.2.2.2.2.2)) (dSV_md h rfl rfl rfl rfl rfl rfl rfl) (fun t B' _ h1 => dSV_st h1 (by omega)) P.1 (Nat.le_refl _)
  exact dFo_inv (g := fun B t => dDr P B (P.1 - 1 - t)) (I := fun _ B' => dSV P L B') (n := P.1) h1 (fun t B' _ h1 => dSV_dr h1) P.1 (Nat.le_refl _)
section D12
variable {α : Type} {σ : pxS} {k p : Nat} {P : dP} {B B1 B2 : dB} {Q : α → Prop}
theorem dT_md (h : dC σ k p P B) (hP : dWP P) (hV : dWV P) (hp : p < 2) : dT σ k p P (F_Bo_measureDraws σ k) (dMD P B) := by
  have hn := hP.n
  unfold F_Bo_measureDraws dMD
  refine dw_bd (B.1, B.2.1, B.2.2.1, B.2.2.2.1, 0, B.2.2.2.2.2.1, B.2.2.2.2.2.2.1, B.2.2.2.2.2.2.2.1, B.2.2.2.2.2.2.2.2) h (by omega) ⟨rfl, rfl, rfl, rfl⟩ rfl rfl rfl rfl rfl fun τ0 g0 f0 => ?_
  refine dw_T (σ := τ0) (k := k) (p := p) (P := P) (B1 := dFo (fun B t => B.st t 5 0) P.1 (B.1, B.2.1, B.2.2.1, B.2.2.2.1, 0, B.2.2.2.2.2.1, B.2.2.2.2.2.2.1, B.2.2.2.2.2.2.2.1, B.2.2.2.2.2.2.2.2)) ?_ fun τ1 g1 f1 => ?_
  · refine dT_for P.1 (by unfold px_N; omega) (fun t => dFo (fun B t => B.st t 5 0) t (B.1, B.2.1, B.2.2.1, B.2.2.2.1, 0, B.2.2.2.2.2.1, B.2.2.2.2.2.2.1, B.2.2.2.2.2.2.2.1, B.2.2.2.2.2.2.2.2)) g0 (fun t τ ht hτ => ?_) (fun τ hτ => ?_)
    · show dw (Bo_measureDraws_n7 τ k (dn t)) _
      unfold Bo_measureDraws_n7
      rw [dC_n hτ hp, if_neg (by rw [dn_le (by omega) (by omega)]; omega)]
      refine dw_gi (by omega) (by omega) ?_
      rw [dn_nat (by omega)]
      refine dw_st hτ fun τ2 g2 f2 => ?_
      simp only [dw_some, dR_l]
      exact ⟨dn_suc t, g2, f2⟩
    · show Bo_measureDraws_n7 τ k (dn P.1) = _
      unfold Bo_measureDraws_n7
      rw [dC_n hτ hp, if_pos (by rw [dn_le (by omega) (by omega)]; omega)]
  · generalize dFo (fun B t => B.st t 5 0) P.1 (B.1, B.2.1, B.2.2.1, B.2.2.2.1, 0, B.2.2.2.2.2.1, B.2.2.2.2.2.2.1, B.2.2.2.2.2.2.2.1, B.2.2.2.2.2.2.2.2) = B0 at g1
    rw [dC_n g1 hp]
    refine dw_b1.mpr (dw_mono (P := fun τ' => dC τ' k p P (dFo (fun B t => dDr P B (P.1 - 1 - t)) P.1 B0) ∧ dF k σ τ') ?_ fun τ' h' => dw_some.mpr h')
    have f01 := dF_trans f0 f1
    refine dw_up P.1 (by unfold px_N; omega) (fun t s => s.1 = dn (P.1 - t) - 1 ∧ dC s.2 k p P (dFo (fun B t => dDr P B (P.1 - 1 - t)) t B0) ∧ dF k σ s.2) (fun t s ht hI => ?_) (fun s hI => ?_) (Nat.zero_le _) ⟨rfl, g1, f01⟩
    · obtain ⟨v, τ⟩ := s
      obtain ⟨rfl, h1, h2⟩ := hI
      dsimp only at h1 h2
      have e0 : dn (P.1 - t) - 1 = dn (P.1 - 1 - t) := by
        rw [show (1 : Int32) = dn 1 from rfl, dn_sub (by omega)]
        congr 1
        omega
      have e1 : dn (P.1 - 1 - t) + (-1) = dn (P.1 - (t + 1)) - 1 := by
        rw [Int32.sub_eq_add_neg]
        congr 2
        omega
      show dw (Bo_measureDraws_n44 τ k (dn (P.1 - t) - 1)) (dR (fun s => s.1 = dn (P.1 - (t + 1)) - 1 ∧ dC s.2 k p P (dDr P (dFo (fun B t => dDr P B (P.1 - 1 - t)) t B0) (P.1 - 1 - t)) ∧ dF k σ s.2) _)
      rw [e0, ← e1]
      have hi : P.1 - 1 - t < P.1 := by omega
      generalize P.1 - 1 - t = i at hi
      generalize dFo (fun B t => dDr P B (P.1 - 1 - t)) t B0 = B at h1
      unfold Bo_measureDraws_n44
      rw [if_neg (dn_nn (by omega))]
      refine dw_gi (by omega) (by omega) (dw_gi (by omega) (by omega) (dw_v (dC_on h1 hP hi) ?_))
      have hlv := hV.lv i hi
      -- the rest of a round
      have key : ∀ {QQ : pxS → Prop} {τ' : pxS}, dC τ' k p P (dD1 P B i) → dF k σ τ' → dw (Bo_measureDraws_n97 τ' k (dn i) k i) (dR (fun s => s.1 = dn i + (-1) ∧ dC s.2 k p P (dDr P B i) ∧ dF k σ s.2) QQ) := fun {QQ τ'} g f => by
        unfold dDr
        generalize dD1 P B i = B at g
        unfold Bo_measureDraws_n97
        refine dw_gi (by omega) (by omega) ?_
        rw [dn_nat (by omega), g.f i hi 5 (by omega), g.f i hi 4 (by omega), g.hp, dn_nat (by omega), g.P.a 4 (by omega) i hi]
        refine dw_st g fun τ2 g2 f2 => ?_
        change dC τ2 k p P (dD2 P B i) at g2
        have f2 := dF_trans f f2
        generalize dD2 P B i = B at g2
        rw [g2.f i hi 5 (by omega), g2.f i hi 1 (by omega)]
        have key2 : ∀ {τ3 : pxS}, dC τ3 k p P (dD3 B i) → dF k σ τ3 → dw (px_gd (dn i) 12 (if τ3 (8, (τ3 (2, k, 0) 4).toNatClampNeg, 1) i < 0 then Bo_measureDraws_n187 τ3 k (dn i) k i else (if dn i ≤ τ3 (8, (τ3 (2, k, 0) 4).toNatClampNeg, 1) i then Bo_measureDraws_n187 τ3 k (dn i) k i else px_gd (τ3 (8, (τ3 (2, k, 0) 4).toNatClampNeg, 1) i) 12 (px_l (px_up τ3 (3, k, (τ3 (8, (τ3 (2, k, 0) 4).toNatClampNeg, 1) i).toNatClampNeg) 5 ((τ3 (3, k, (τ3 (8, (τ3 (2, k, 0) 4).toNatClampNeg, 1) i).toNatClampNeg) 5) + (τ3 (3, k, i) 5))) fun σ15 => Bo_measureDraws_n200 σ15 k (dn i))))) (dR (fun s => s.1 = dn i + (-1) ∧ dC s.2 k p P (dD4 P (dD3 B i) i) ∧ dF k σ s.2) QQ) := fun {τ3} g3 f3 => by
          generalize dD3 B i = B at g3
          unfold Bo_measureDraws_n187 Bo_measureDraws_n200 dD4
          refine dw_gi (by omega) (by omega) ?_
          rw [g3.hp, dn_nat (by omega), g3.P.a 1 (by omega) i hi, g3.f i hi 5 (by omega), g3.total]
          rcases hV.pr i hi with e | ⟨j, hj, e⟩
          · rw [e, if_pos (by decide), if_pos (by decide)]
            refine dw_bd (B.1, B.2.1, B.2.2.1, B.2.2.2.1, B.2.2.2.2.1 + B.1 i 5, B.2.2.2.2.2.1, B.2.2.2.2.2.2.1, B.2.2.2.2.2.2.2.1, B.2.2.2.2.2.2.2.2) g3 (by omega) ⟨rfl, rfl, rfl, rfl⟩ rfl rfl rfl rfl rfl fun τ4 g4 f4 => ?_
            simp only [dw_some, dR_l]
            exact ⟨trivial, g4, dF_trans f3 f4⟩
          · rw [e, if_neg (dn_nn (by omega)), if_neg (dn_nn (by omega)), if_neg (by rw [dn_le (by omega) (by omega)]; omega), dn_nat (by omega)]
            refine dw_gi (by omega) (by omega) ?_
            rw [g3.f j (by omega) 5 (by omega)]
            refine dw_st g3 fun τ4 g4 f4 => ?_
            simp only [dw_some, dR_l]
            exact ⟨trivial, g4, dF_trans f3 f4⟩
        by_cases c : B.1 i 5 ≤ B.1 i 1
        · rw [if_pos c]
          refine dw_st g2 fun τ3 g3 f3 => ?_
          have e3 : B.st i 6 0 = dD3 B i := by unfold dD3; rw [if_pos c]
          rw [e3] at g3
          exact key2 g3 (dF_trans f2 f3)
        · rw [if_neg c]
          refine dw_st g2 fun τ3 g3 f3 => ?_
          have e3 : B.st i 6 1 = dD3 B i := by unfold dD3; rw [if_neg c]
          rw [e3] at g3
          exact key2 g3 (dF_trans f2 f3)
      rw [dn_nat (by omega)]
      by_cases c : B.on i
      · have e3 : dD1 P B i = B.st i 5 (B.1 i 5 + B.1 i 0 * B.1 i 3 / P.2.2.2 2 i) := by unfold dD1; rw [if_pos c]
        rw [if_pos c, if_neg (by decide), h1.hp, dn_nat (by omega), h1.P.a 2 (by omega) i hi, if_neg (by rw [Int32.le_iff_toInt_le]; simp; omega), dw_gz, h1.f i hi 5 (by omega), h1.f i hi 0 (by omega), h1.f i hi 3 (by omega)]
        refine ⟨fun e => ?_, dw_st h1 fun τ2 g2 f2 => key (e3 ▸ g2) (dF_trans h2 f2)⟩
        rw [e] at hlv
        simp at hlv
      · have e3 : dD1 P B i = B := by unfold dD1; rw [if_neg c]
        rw [if_neg c, if_pos rfl]
        exact key (e3.symm ▸ h1) h2
    · obtain ⟨v, τ⟩ := s
      obtain ⟨rfl, h1, h2⟩ := hI
      show dw (Bo_measureDraws_n44 τ k (dn (P.1 - P.1) - 1)) _
      unfold Bo_measureDraws_n44
      rw [show P.1 - P.1 = 0 by omega, if_pos (by decide)]
      simp only [dw_some, dR_r]
      exact ⟨h1, h2⟩
end D12
end
section
/-! low, and the tick's end -/
def dLw (P : dP) (B : dB) (t : Nat) : Int32 := if B.1 t 2 = 3 ∧ ¬ B.gd P t then B.1 t 7 + 1 else 0
def dTL1 (P : dP) (B : dB) (t : Nat) : dB :=
  if dLw P B t < P.2.2.2 14 3 then B.st t 7 (dLw P B t) else if t ∈ B.2.2.1 then B.st t 7 (dLw P B t) else dTrip P (B.st t 7 (dLw P B t)) t
def dTL (P : dP) (B : dB) : dB := dFo (dTL1 P) P.1 B
def dLF (B : dB) : dB := match B.2.2.1 with
  | [] => B
  | i :: _ => ((dB.st (B.1, B.2.1, dDrop B.2.2.1 i, B.2.2.2.1, B.2.2.2.2.1, B.2.2.2.2.2.1, B.2.2.2.2.2.2.1, B.2.2.2.2.2.2.2.1, B.2.2.2.2.2.2.2.2)) i 2 4).wr (dn i) 3
def dTA (P : dP) (B : dB) : dB := match dLat B (dAll P.1) P.1 with
  | none => B
  | some i => dTrip P B i
def dB7 (P : dP) (B : dB) : dB := dTL P (dMD P (dMV P (dBR P (dSq P 25 (dCA P (B.1, B.2.1, B.2.2.1, B.2.2.2.1 + 1, B.2.2.2.2.1, B.2.2.2.2.2.1, B.2.2.2.2.2.2.1, B.2.2.2.2.2.2.2.1, B.2.2.2.2.2.2.2.2))))))
def dPass (P : dP) (B : dB) : dB := dLF (if (dB7 P B).2.2.2.2.1 ≤ P.2.2.2 14 6 then dB7 P B else dTA P (dB7 P B))
theorem dSV_trip {P : dP} {L : Nat} {B : dB} {i : Nat} (h : dSV P L B) : dSV P (L + 2) (dTrip P B i) := by
  have sm : dSm ((B.st i 9 (B.1 i 9 + 1)).wr (dn i) 2) (dUn P.1 (dSet P i) ((B.st i 9 (B.1 i 9 + 1)).wr (dn i) 2)) := dSm_un
  have hl := h.l
  have h1 : dSV P (L + 1) (dTr0 P B i) := ⟨dWB_st (dWB_un (dWB_wr (dWB_st h.b (by omega)))) (by omega), by show (dUn P.1 (dSet P i) _).2.2.2.2.2.2.1 ≤ _; rw [sm.step]; exact h.s, by show (dUn P.1 (dSet P i) _).2.2.2.2.2.2.2.2.length ≤ _; rw [sm.log]; show B.2.2.2.2.2.2.2.2.length + 1 ≤ _; omega, by show (dUn P.1 (dSet P i) _).2.2.2.2.2.1 < _; rw [sm.mode]; exact h.m, by show (dUn P.1 (dSet P i) _).2.2.2.2.2.2.2.1 ≤ _; rw [sm.stay]; exact h.y, by show (dUn P.1 (dSet P i) _).2.2.2.2.2.1 = 1 → (dUn P.1 (dSet P i) _).2.2.2.2.2.2.1 < _ → _; intro a b; show (P.2.2.2 11 (dUn P.1 (dSet P i) _).2.2.2.2.2.2.1 = 2 → (dUn P.1 (dSet P i) _).2.2.2.2.2.2.2.1 ≤ (P.2.2.2 13 (dUn P.1 (dSet P i) _).2.2.2.2.2.2.1).toNatClampNeg) ∧ (P.2.2.2 11 (dUn P.1 (dSet P i) _).2.2.2.2.2.2.1 = 3 → (dUn P.1 (dSet P i) _).2.2.2.2.2.2.2.1 < (P.2.2.2 13 (dUn P.1 (dSet P i) _).2.2.2.2.2.2.1).toNatClampNeg); rw [sm.mode] at a; rw [sm.step] at b ⊢; rw [sm.stay]; exact h.z a b⟩
  unfold dTrip
  by_cases c : (dTr0 P B i).2.2.2.2.2.1 = 1
  · rw [if_pos c]
    have := h1.l
    exact ⟨dWB_fail h1.b, h1.s, by show (dTr0 P B i).2.2.2.2.2.2.2.2.length + 1 ≤ _; omega, by show 3 < 4; omega, h1.y, fun (z : (3 : Nat) = 1) => absurd z (by omega)⟩
  · rw [if_neg c]; exact dSV_le h1 (by omega)
theorem dSV_tl {P : dP} {L : Nat} {B : dB} {t : Nat} (h : dSV P L B) : dSV P (L + 2) (dTL1 P B t) := by
  have h1 : dSV P L (B.st t 7 (dLw P B t)) := dSV_st h (by omega)
  unfold dTL1
  by_cases c : dLw P B t < P.2.2.2 14 3
  · rw [if_pos c]; exact dSV_le h1 (by omega)
  · rw [if_neg c]
    by_cases c2 : t ∈ B.2.2.1
    · rw [if_pos c2]; exact dSV_le h1 (by omega)
    · rw [if_neg c2]; exact dSV_trip h1
theorem dSV_ca1 {P : dP} {L : Nat} {B : dB} {t : Nat} (h : dSV P L B) (ht : t < P.1) : dSV P (L + 1) (dCA1 B t) := by
  obtain ⟨h1, h2, h3, h4, h5, h6⟩ := dCA1_l B t
  have := h.l
  exact ⟨dWB_ca1 h.b ht, by rw [h4]; exact h.s, by omega, by rw [h2]; exact h.m, by rw [h5]; exact h.y, by unfold dSy; rw [h2, h4, h5]; exact h.z⟩
theorem dSV_ca {P : dP} {L : Nat} {B : dB} (h : dSV P L B) (hn : P.1 ≤ 12) : dSV P (L + 12) (dCA P B) :=
  dSV_le (dFo_inv (g := dCA1) (I := fun t B' => dSV P (L + t) B') (n := P.1) h (fun t B' ht h1 => dSV_ca1 h1 ht) P.1 (Nat.le_refl _)) (by omega)
theorem dStp_y {P : dP} {B : dB} (hS : dWS P) (hy : B.2.2.2.2.2.2.2.1 ≤ 100) (hz : dSy P B) (c : B.2.2.2.2.2.1 = 1) (c1 : B.2.2.2.2.2.2.1 < P.2.2.1) (e : (dStp P B).1 = false) : (dStp P B).2.2.2.2.2.2.2.2.1 ≤ 100 ∧ dSy P (dStp P B).2 := by
  obtain ⟨s1, s2, t, s3, s4, s5⟩ := hS B.2.2.2.2.2.2.1 c1
  obtain ⟨z1, z2⟩ := hz c c1
  rw [s4, dn_nat (by omega)] at z1 z2
  revert e
  unfold dStp
  rw [s4, dn_nat (by omega)]
  by_cases k0 : P.2.2.2 11 B.2.2.2.2.2.2.1 = 0
  · rw [if_pos k0]; intro e; cases e
  · rw [if_neg k0]
    by_cases k1 : P.2.2.2 11 B.2.2.2.2.2.2.1 = 1
    · rw [if_pos k1]; intro e; cases e
    · rw [if_neg k1]
      by_cases k2 : P.2.2.2 11 B.2.2.2.2.2.2.1 = 2
      · rw [if_pos k2]
        by_cases k3 : B.2.2.2.2.2.2.2.1 < t
        · rw [if_pos k3]; intro _
          refine ⟨by show B.2.2.2.2.2.2.2.1 + 1 ≤ 100; omega, fun _ _ => ?_⟩
          show (P.2.2.2 11 B.2.2.2.2.2.2.1 = 2 → B.2.2.2.2.2.2.2.1 + 1 ≤ (P.2.2.2 13 B.2.2.2.2.2.2.1).toNatClampNeg) ∧ (P.2.2.2 11 B.2.2.2.2.2.2.1 = 3 → B.2.2.2.2.2.2.2.1 + 1 < (P.2.2.2 13 B.2.2.2.2.2.2.1).toNatClampNeg)
          rw [s4, dn_nat (by omega)]
          exact ⟨fun _ => k3, fun z => by rw [k2] at z; exact absurd z (by decide)⟩
        · rw [if_neg k3]; intro e; cases e
      · rw [if_neg k2]
        have k3 : P.2.2.2 11 B.2.2.2.2.2.2.1 = 3 := by
          rcases s1 with z | z | z | z
          · exact absurd z k0
          · exact absurd z k1
          · exact absurd z k2
          · exact z
        have z2 := z2 k3
        by_cases k4 : B.gd P (P.2.2.2 12 B.2.2.2.2.2.2.1).toNatClampNeg
        · rw [if_pos k4]; intro e; cases e
        · rw [if_neg k4]
          by_cases k5 : B.2.2.2.2.2.2.2.1 + 1 < t
          · rw [if_pos k5]; intro _
            refine ⟨by show B.2.2.2.2.2.2.2.1 + 1 ≤ 100; omega, fun _ _ => ?_⟩
            show (P.2.2.2 11 B.2.2.2.2.2.2.1 = 2 → B.2.2.2.2.2.2.2.1 + 1 ≤ (P.2.2.2 13 B.2.2.2.2.2.2.1).toNatClampNeg) ∧ (P.2.2.2 11 B.2.2.2.2.2.2.1 = 3 → B.2.2.2.2.2.2.2.1 + 1 < (P.2.2.2 13 B.2.2.2.2.2.2.1).toNatClampNeg)
            rw [s4, dn_nat (by omega)]
            exact ⟨fun _ => by omega, fun _ => k5⟩
          · rw [if_neg k5]; intro _
            have sm := dSm_un (n := P.1) (set := dAll P.1) (B := dFail (B.1, B.2.1, B.2.2.1, B.2.2.2.1, B.2.2.2.2.1, B.2.2.2.2.2.1, B.2.2.2.2.2.2.1, B.2.2.2.2.2.2.2.1 + 1, B.2.2.2.2.2.2.2.2))
            refine ⟨?_, fun a => ?_⟩
            · show (dUn P.1 (dAll P.1) _).2.2.2.2.2.2.2.1 ≤ 100
              rw [sm.stay]; show B.2.2.2.2.2.2.2.1 + 1 ≤ 100; omega
            · have a : (dUn P.1 (dAll P.1) (dFail (B.1, B.2.1, B.2.2.1, B.2.2.2.1, B.2.2.2.2.1, B.2.2.2.2.2.1, B.2.2.2.2.2.2.1, B.2.2.2.2.2.2.2.1 + 1, B.2.2.2.2.2.2.2.2))).2.2.2.2.2.1 = 1 := a
              rw [sm.mode] at a
              exact absurd a (by show ¬ (3 : Nat) = 1; omega)
theorem dSV_sq {P : dP} (hS : dWS P) (hn : P.1 ≤ 12) : ∀ (k : Nat) {L : Nat} {B : dB}, dSV P L B → dSV P (L + 1) (dSq P k B) := by
  have h2 : ∀ (k : Nat) (B : dB), ¬ B.2.2.2.2.2.1 = 1 → dSq P k B = B := fun k B hm => by
    cases k with
    | zero => rfl
    | succ k => rw [dSq, if_neg hm]
  intro k
  induction k with
  | zero => intro L B h; exact dSV_le h (by omega)
  | succ k ih =>
    intro L B h
    unfold dSq
    by_cases c : B.2.2.2.2.2.1 = 1
    · rw [if_pos c]
      by_cases c1 : B.2.2.2.2.2.2.1 < P.2.2.1
      · rw [if_pos c1]
        obtain ⟨n1, n2, n3, n4, n5, n6⟩ := dStp_n (P := P) (B := B)
        have hl := h.l
        have hm := h.m
        cases e : (dStp P B).1 with
        | false =>
          have e' : dStp P B = (false, (dStp P B).2) := by rw [← e]
          rw [e']
          dsimp only
          obtain ⟨y1, y2⟩ := dStp_y hS h.y h.z c c1 e
          exact ⟨dWB_stp hS hn h.b c1, by rw [n3]; exact h.s, by omega, by omega, y1, y2⟩
        | true =>
          have e' : dStp P B = (true, (dStp P B).2) := by rw [← e]
          rw [e']
          exact ih (dSV_next hS hn h c c1 e)
      · rw [if_neg c1]
        rw [h2 k _ (by show ¬ (2 : Nat) = 1; omega)]
        have hl := h.l
        exact ⟨dWB_md h.b rfl rfl rfl, h.s, by show B.2.2.2.2.2.2.2.2.length + 1 ≤ _; omega, by show 2 < 4; omega, h.y, fun (z : (2 : Nat) = 1) => absurd z (by omega)⟩
    · rw [if_neg c]; exact dSV_le h (by omega)
theorem dSV_br {P : dP} {L : Nat} {B : dB} (h : dSV P L B) (hn : P.1 ≤ 12) : dSV P (L + 12) (dBR P B) := by
  have hw := dL_len h.b.w
  have key : ∀ (G : Int32) (l : List Nat) (L : Nat) (B : dB), dSV P L B → l.Nodup → (∀ i ∈ l, i < P.1 ∧ B.1 i 2 = 1) → dSV P (L + l.length) (dRs P G l B) := by
    intro G l
    induction l with
    | nil => intro L B h _ _; exact h
    | cons i l ih =>
      intro L B h hnd hh
      rw [dRs]
      obtain ⟨h1, h2⟩ := List.nodup_cons.mp hnd
      by_cases c : dHd P G i = 0
      · rw [if_pos c]
        have hl := h.l
        have := ih (L + 1) (B.rs i) ⟨dWB_rs h.b (hh i (by simp)).2, h.s, by show B.2.2.2.2.2.2.2.2.length + 1 ≤ _; omega, h.m, h.y, h.z⟩ h2 (fun j hj => ⟨(hh j (by simp [hj])).1, by
          have e : j ≠ i := fun e => h1 (e ▸ hj)
          show ((((dB.st (B.1, dDrop B.2.1 i, B.2.2.1, B.2.2.2.1, B.2.2.2.2.1, B.2.2.2.2.2.1, B.2.2.2.2.2.2.1, B.2.2.2.2.2.2.2.1, B.2.2.2.2.2.2.2.2)) i 2 2).st i 8 (dn B.2.2.2.1))).1 j 2 = _
          rw [dB.st_ne (Or.inl e), dB.st_ne (Or.inl e)]
          exact (hh j (by simp [hj])).2⟩)
        exact dSV_le this (by rw [List.length_cons]; omega)
      · rw [if_neg c]
        exact dSV_le (ih L B h h2 fun j hj => hh j (by simp [hj])) (by rw [List.length_cons]; omega)
  exact dSV_le (key _ B.2.1 L B h h.b.w.1 fun i hi => ⟨h.b.w.2 i hi, (h.b.ws i (h.b.w.2 i hi)).mpr hi⟩) (by omega)
theorem dSV_mv {P : dP} {L : Nat} {B : dB} (h : dSV P L B) (hn : P.1 ≤ 12) : dSV P (L + 12) (dMV P B) :=
  dSV_le (dFo_inv (g := dVo P) (I := fun t B' => dSV P (L + t) B') (n := P.1) h (fun t B' _ h1 => dSV_vo h1) P.1 (Nat.le_refl _)) (by omega)
theorem dSV_tL {P : dP} {L : Nat} {B : dB} (h : dSV P L B) (hn : P.1 ≤ 12) : dSV P (L + 24) (dTL P B) :=
  dSV_le (dFo_inv (g := dTL1 P) (I := fun t B' => dSV P (L + 2 * t) B') (n := P.1) h (fun t B' _ h1 => dSV_tl h1) P.1 (Nat.le_refl _)) (by omega)
theorem dSV_ta {P : dP} {L : Nat} {B : dB} (h : dSV P L B) : dSV P (L + 2) (dTA P B) := by
  unfold dTA
  cases dLat B (dAll P.1) P.1 with
  | none => exact dSV_le h (by omega)
  | some i => exact dSV_trip h
theorem dSV_lf {P : dP} {L : Nat} {B : dB} (h : dSV P L B) : dSV P (L + 1) (dLF B) := by
  unfold dLF
  cases e : B.2.2.1 with
  | nil => exact dSV_le h (by omega)
  | cons i l =>
    have ho := h.b.ro i (by rw [e]; simp)
    have h1 : ¬ B.1 i 2 = 1 := fun z => by
      rcases ho with y | y <;> rw [z] at y <;> exact absurd y (by decide)
    have hb : dWB P (B.1, B.2.1, dDrop B.2.2.1 i, B.2.2.2.1, B.2.2.2.2.1, B.2.2.2.2.2.1, B.2.2.2.2.2.2.1, B.2.2.2.2.2.2.2.1, B.2.2.2.2.2.2.2.2) := ⟨h.b.w, dL_drop h.b.r, h.b.ws, fun j hj => h.b.ro j (List.mem_filter.mp hj).1⟩
    have hl := h.l
    dsimp only
    rw [← e]
    exact ⟨dWB_wr (dWB_s2 hb h1 (by decide) fun hm => absurd hm (by simp [dDrop])), h.s, by show B.2.2.2.2.2.2.2.2.length + 1 ≤ _; omega, h.m, h.y, h.z⟩
section D13
variable {α : Type} {σ : pxS} {k p : Nat} {P : dP} {B B1 B2 : dB} {Q : α → Prop}
theorem dC_hs {i : Nat} (h : dC σ k p P B) (hi : i < 32) : F_Qu_holds σ k 1 (dn i) = some (if i ∈ B.2.2.1 then 1 else 0) := by
  unfold F_Qu_holds
  by_cases c : i ∈ B.2.2.1
  · rw [if_neg (by rw [db_sh0 hi, h.r.b i hi]; simpa using c), if_pos c]
  · rw [if_pos (by rw [db_sh0 hi, h.r.b i hi]; simpa using c), if_neg c]
theorem dT_tl (h : dC σ k p P B) (hP : dWP P) (hp : p < 2) (hB : dSV P 900000 B) : dT σ k p P (F_Bo_tripTheLow σ k) (dTL P B) := by
  have hn := hP.n
  unfold F_Bo_tripTheLow dTL
  refine dT_b ?_ fun τ h' => dT_some h'
  have inv := dFo_inv (g := dTL1 P) (I := fun t B' => dSV P (900000 + 2 * t) B') (n := P.1) (B := B) hB (fun t B' _ h1 => dSV_tl h1)
  refine dT_for P.1 (by unfold px_N; omega) (fun t => dFo (dTL1 P) t B) h (fun t τ ht hτ => ?_) (fun τ hτ => ?_)
  · have hW := inv t (by omega)
    show dw (Bo_tripTheLow_n2 τ k (dn t)) (dR (fun s => s.1 = dn (t + 1) ∧ dC s.2 k p P (dTL1 P (dFo (dTL1 P) t B) t) ∧ dF k τ s.2) _)
    generalize dFo (dTL1 P) t B = B at hτ hW
    have hll := hW.l
    have hmm := hW.m
    unfold Bo_tripTheLow_n2 Bo_tripTheLow_n82
    rw [dC_n hτ hp, if_neg (by rw [dn_le (by omega) (by omega)]; omega)]
    refine dw_gi (by omega) (by omega) ?_
    rw [dn_nat (by omega), hτ.f t ht 2 (by omega), hτ.f t ht 7 (by omega)]
    have key : ∀ {v : Int32} {τ1 : pxS}, v = dLw P B t → dC τ1 k p P (B.st t 7 v) → dF k τ τ1 → dw (if τ1 (3, k, t) 7 < τ1 (8, (τ1 (2, k, 0) 4).toNatClampNeg, 14) 3 then (some (.inl (dn t + 1, τ1)) : Option ((Int32 × pxS) ⊕ pxS)) else px_b1 (F_Qu_holds τ1 k 1 (dn t)) fun r => if r = 0 then px_b1 (F_Bo_trip τ1 k (dn t)) fun σ4 => some (.inl (dn t + 1, σ4)) else some (.inl (dn t + 1, τ1))) (dR (fun s => s.1 = dn (t + 1) ∧ dC s.2 k p P (dTL1 P B t) ∧ dF k τ s.2) (fun _ => False)) := fun {v τ1} ev g f => by
      subst ev
      rw [g.f t ht 7 (by omega), dB.st_eq, g.hp, dn_nat (by omega), g.P.e 3 (by omega)]
      unfold dTL1
      by_cases c : dLw P B t < P.2.2.2 14 3
      · rw [if_pos c, if_pos c]
        simp only [dw_some, dR_l]
        exact ⟨dn_suc t, g, f⟩
      · rw [if_neg c, if_neg c]
        refine dw_v (dC_hs g (by omega)) ?_
        by_cases c2 : t ∈ B.2.2.1
        · rw [if_pos (show t ∈ (B.st t 7 (dLw P B t)).2.2.1 from c2), if_neg (by decide), if_pos c2]
          simp only [dw_some, dR_l]
          exact ⟨dn_suc t, g, f⟩
        · rw [if_neg (show ¬ t ∈ (B.st t 7 (dLw P B t)).2.2.1 from c2), if_pos rfl, if_neg c2]
          refine dw_T (dT_trip g hP hp (dWB_st hW.b (by omega)) ht (by show B.2.2.2.2.2.2.2.2.length < _; omega) hmm) fun τ2 g2 f2 => ?_
          simp only [dw_some, dR_l]
          exact ⟨dn_suc t, g2, dF_trans f f2⟩
    by_cases c : B.1 t 2 = 3
    · rw [if_pos c]
      refine dw_v (dC_gd hτ hP hp ht) ?_
      by_cases c2 : B.gd P t
      · rw [if_pos c2, if_neg (by decide)]
        exact dw_st hτ fun τ1 g f => key (by unfold dLw; rw [if_neg (fun z => z.2 c2)]) g f
      · rw [if_neg c2, if_pos rfl]
        exact dw_st hτ fun τ1 g f => key (by unfold dLw; rw [if_pos ⟨c, c2⟩]) g f
    · rw [if_neg c]
      exact dw_st hτ fun τ1 g f => key (by unfold dLw; rw [if_neg (fun z => c z.1)]) g f
  · show Bo_tripTheLow_n2 τ k (dn P.1) = _
    unfold Bo_tripTheLow_n2
    rw [dC_n hτ hp, if_pos (by rw [dn_le (by omega) (by omega)]; omega)]
theorem dT_ta (h : dC σ k p P B) (hP : dWP P) (hp : p < 2) (hB : dSV P 950000 B) : dT σ k p P (F_Bo_tripTheLatest σ k) (dTA P B) := by
  have hn := hP.n
  have hl := hB.l
  unfold F_Bo_tripTheLatest dTA
  refine dT_v (dC_all h hp) (dT_v (dC_lat h hp hP) ?_)
  cases e : dLat B (dAll P.1) P.1 with
  | none =>
    rw [show dOp none = -1 from rfl, if_pos (by decide)]
    exact dT_some h
  | some i =>
    have hi := (dLat_lt e).1
    rw [show dOp (some i) = dn i from rfl, if_neg (dn_nn (by omega))]
    exact dT_b (dT_trip h hP hp hB.b hi (by omega) hB.m) fun τ2 h2 => dT_some h2
theorem dT_lf (h : dC σ k p P B) (hP : dWP P) (hB : dSV P 960000 B) : dT σ k p P (F_Bo_letFirstFall σ k) (dLF B) := by
  have hn := hP.n
  have hl := hB.l
  have hr := dL_len hB.b.r
  unfold F_Bo_letFirstFall dLF
  cases e : B.2.2.1 with
  | nil =>
    refine dT_v (dC_at2 (t := 0) h.r (by omega) (by rw [e]; simp) (by omega)) ?_
    rw [if_pos (by decide)]
    exact dT_some h
  | cons i l =>
    have h0 : 0 < B.2.2.1.length := by rw [e]; simp
    have hi : i < P.1 := hB.b.r.2 i (by rw [e]; simp)
    have e1 : B.2.2.1[0] = i := by simp [e]
    refine dT_v (dC_at (t := 0) h.r (by omega) h0) ?_
    rw [e1, if_neg (dn_nn (by omega))]
    dsimp only
    rw [← e]
    refine dT_b (dT_rdrop h hB.b.r hn hi) fun τ1 g1 => dT_gi hi hP ?_
    rw [dn_nat (by omega)]
    refine dT_st g1 fun τ2 g2 => dT_b (dT_wr g2 (by show B.2.2.2.2.2.2.2.2.length < _; omega)) fun τ3 g3 => dT_some g3
theorem dT_pass (h : dC σ k p P B) (hP : dWP P) (hS : dWS P) (hV : dWV P) (hp : p < 2) (hB : dSV P 700000 B) (ht : B.2.2.2.1 < 99999) : dT σ k p P (F_Bo_pass σ k) (dPass P B) := by
  have hn := hP.n
  unfold F_Bo_pass Bo_pass_n55 dPass dB7
  rw [h.tick, dn_suc]
  refine dw_bd (B.1, B.2.1, B.2.2.1, B.2.2.2.1 + 1, B.2.2.2.2.1, B.2.2.2.2.2.1, B.2.2.2.2.2.2.1, B.2.2.2.2.2.2.2.1, B.2.2.2.2.2.2.2.2) h (by omega) ⟨rfl, rfl, rfl, rfl⟩ rfl rfl rfl rfl rfl fun τ0 g0 f0 => dw_mono (P := fun τ' => dC τ' k p P _ ∧ dF k τ0 τ') ?_ fun τ' h' => ⟨h'.1, dF_trans f0 h'.2⟩
  have v0 : dSV P 700000 (B.1, B.2.1, B.2.2.1, B.2.2.2.1 + 1, B.2.2.2.2.1, B.2.2.2.2.2.1, B.2.2.2.2.2.2.1, B.2.2.2.2.2.2.2.1, B.2.2.2.2.2.2.2.2) := dSV_md hB rfl rfl rfl rfl rfl rfl rfl
  have v1 := dSV_ca v0 hn
  have v2 := dSV_sq hS hn 25 v1
  have v3 := dSV_br v2 hn
  have v4 := dSV_mv v3 hn
  have v5 := dSV_mD v4
  have v6 := dSV_tL v5 hn
  have l0 := v0.l
  have l1 := v1.l
  have l2 := v2.l
  refine dT_b (dT_ca g0 hP hp v0.b (by omega) (by show B.2.2.2.1 + 1 < _; omega)) fun τ1 g1 => ?_
  refine dT_b (dT_sq g1 hP hS hp v1.b v1.s v1.m v1.y v1.z (by omega)) fun τ2 g2 => ?_
  refine dT_b (dT_br g2 hP hp v2.b (by omega)) fun τ3 g3 => ?_
  refine dT_b (dT_mv g3 hP hp (dSV_le v3 (by omega))) fun τ4 g4 => ?_
  refine dT_b (dT_md g4 hP hV hp) fun τ5 g5 => ?_
  refine dT_b (dT_tl g5 hP hp (dSV_le v5 (by omega))) fun τ6 g6 => ?_
  rw [g6.total, g6.hp, dn_nat (by omega), g6.P.e 6 (by omega)]
  generalize dTL P (dMD P (dMV P (dBR P (dSq P 25 (dCA P (B.1, B.2.1, B.2.2.1, B.2.2.2.1 + 1, B.2.2.2.2.1, B.2.2.2.2.2.1, B.2.2.2.2.2.2.1, B.2.2.2.2.2.2.2.1, B.2.2.2.2.2.2.2.2)))))) = B' at g6 v6
  by_cases c : B'.2.2.2.2.1 ≤ P.2.2.2 14 6
  · rw [if_pos c, if_pos c]
    exact dT_b (dT_lf g6 hP (dSV_le v6 (by omega))) fun τ7 g7 => dT_some g7
  · rw [if_neg c, if_neg c]
    refine dT_b (dT_ta g6 hP hp (dSV_le v6 (by omega))) fun τ7 g7 => ?_
    exact dT_b (dT_lf g7 hP (dSV_le (dSV_ta v6) (by omega))) fun τ8 g8 => dT_some g8
end D13
end
