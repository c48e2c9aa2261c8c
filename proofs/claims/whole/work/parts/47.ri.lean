section
theorem dnar_b (x : Int32) : vp_nar .byte x = x.toInt8.toInt32 := rfl
theorem dnar_1 : vp_nar .boolean 1 = 1 := by decide
theorem dnar_0 : vp_nar .boolean 0 = 0 := by decide
end
section
/-! feeding -/
theorem db_8 {x : Int32} {i : Nat} (h : i < 8) : db (x.toInt8.toInt32) i = db x i := by
  unfold db
  rw [Int8.toBitVec_toInt32, Int32.toBitVec_toInt8, BitVec.getLsbD_signExtend, BitVec.getLsbD_signExtend]
  have h32 : i < 32 := by omega
  simp [h, h32]
theorem db_255 {i : Nat} (h : i < 32) : db 255 i = decide (i < 8) := by
  have : ∀ i : Fin 32, db 255 i.val = decide (i.val < 8) := by decide
  exact this ⟨i, h⟩
theorem dbyte (x : Int32) : vp_nar .byte (x.toInt8.toInt32) &&& 255 = x &&& 255 := by
  rw [dnar_b]
  apply db_ext
  intro i hi
  rw [db_and, db_and, db_255 hi]
  by_cases c : i < 8
  · rw [db_8 c, db_8 c]
  · simp [c]
theorem d255 (x : Int32) : ∃ c, c < 256 ∧ x &&& 255 = dn c := by
  have h : dv (x &&& 255) < 256 := by
    rw [dv_and, show dv 255 = 255 by decide]
    exact Nat.lt_of_le_of_lt Nat.and_le_right (by omega)
  exact ⟨dv (x &&& 255), h, dv_inj (by rw [dv_dn (by omega)])⟩
def dwd (v : Int32) (t : Nat) : Int32 := (v >>> (dn (24 - 8 * t) &&& 31)) &&& 255
section G1
variable {σ σ' μ μ' : pxS} {P : dP} {k p f : Nat} {B B' : dB} {I : Option dB} {H : List dB}
def dPW (σ : pxS) (n m : Nat) (g : Nat → Int32) (σ' : pxS) : Prop := σ' (0, 0, 0) 7 = dn (n + m) ∧ (∀ t, t < m → σ' (5, 0, 0) (n + t) &&& 255 = g t) ∧ (∀ x, x < n → σ' (5, 0, 0) x = σ (5, 0, 0) x) ∧ (∀ q, q ≠ 7 → σ' (0, 0, 0) q = σ (0, 0, 0) q) ∧ ∀ j, j ≠ (0, 0, 0) → j ≠ (5, 0, 0) → σ' j = σ j
theorem dput {n : Nat} {v : Int32} (h : σ (0, 0, 0) 7 = dn n) (hn : n + 4 ≤ 700) : dw (F_PR_putWord σ v) (dPW σ n 4 (dwd v)) := by
  unfold F_PR_putWord
  rw [dw_b1]
  refine dw_mono (P := dPW σ n 4 (dwd v)) ?_ fun e he => dw_some.mpr he
  refine dw_up 4 (by unfold px_N; omega) (fun t s => s.1 = (24 : Int32) - dn (8 * t) ∧ dPW σ n t (dwd v) s.2) (fun t s ht hI => ?_) (fun s hI => ?_) (Nat.zero_le _) ⟨rfl, h, fun t ht => absurd ht (by omega), fun _ _ => rfl, fun _ _ => rfl, fun _ _ _ => rfl⟩
  · obtain ⟨x, τ⟩ := s
    obtain ⟨rfl, h1, h2, h3, h4, h5⟩ := hI
    dsimp only at h1 h2 h3 h4 h5
    have e24 : (24 : Int32) - dn (8 * t) = dn (24 - 8 * t) := dn_sub (i := 24) (by omega)
    show dw (PR_putWord_n3 τ v ((24 : Int32) - dn (8 * t))) _
    unfold PR_putWord_n3
    rw [e24, if_neg (dn_nn (by omega)), h1, if_neg (by rw [show (700 : Int32) = dn 700 from rfl, dn_le (by omega) (by omega)]; omega)]
    refine dw_gi (by omega) (by omega) ?_
    rw [dn_nat (by omega)]
    simp only [dw_l, dw_some, dR_l]
    have e7 : px_up τ (5, 0, 0) (n + t) (vp_nar .byte ((v >>> (dn (24 - 8 * t) &&& 31)).toInt8.toInt32)) (0, 0, 0) = τ (0, 0, 0) := by funext x; simp [px_up]
    have e5 : ∀ w, px_up (px_up τ (5, 0, 0) (n + t) (vp_nar .byte ((v >>> (dn (24 - 8 * t) &&& 31)).toInt8.toInt32))) (0, 0, 0) 7 w (5, 0, 0) = du (τ (5, 0, 0)) (n + t) (vp_nar .byte ((v >>> (dn (24 - 8 * t) &&& 31)).toInt8.toInt32)) := fun w => by
      rw [up_o (by simp), px_up_du]
    refine ⟨?_, ?_, fun x hx => ?_, fun x hx => ?_, fun q hq => ?_, fun j h0 h5' => ?_⟩
    · have : ∀ t : Fin 4, dn (24 - 8 * t.val) + (-8) = 24 - dn (8 * (t.val + 1)) := by decide
      exact this ⟨t, ht⟩
    · rw [up_0, if_pos rfl, e7, h1]
      exact dn_suc _
    · rw [e5]
      by_cases e : x = t
      · subst e
        rw [du_eq, dbyte]; rfl
      · rw [du_ne (by omega)]; exact h2 x (by omega)
    · rw [e5, du_ne (by omega)]; exact h3 x hx
    · rw [up_0, if_neg hq, e7]; exact h4 q hq
    · rw [up_o h0, ← h5 j h0 h5']
      funext x
      simp [px_up, h5']
  · obtain ⟨x, τ⟩ := s
    obtain ⟨rfl, h1⟩ := hI
    show dw (PR_putWord_n3 τ v ((24 : Int32) - dn (8 * 4))) _
    unfold PR_putWord_n3
    rw [if_pos (by decide)]
    simp only [dw_some, dR_r]
    exact h1
theorem dPW_2 {n m m' : Nat} {g g' : Nat → Int32} {σ1 σ2 : pxS} (h : dPW σ n m g σ1) (h' : dPW σ1 (n + m) m' g' σ2) : dPW σ n (m + m') (fun t => if t < m then g t else g' (t - m)) σ2 := by
  obtain ⟨a1, a2, a3, a4, a5⟩ := h
  obtain ⟨b1, b2, b3, b4, b5⟩ := h'
  refine ⟨by rw [b1]; congr 1; omega, fun t ht => ?_, fun x hx => (b3 x (by omega)).trans (a3 x hx), fun q hq => (b4 q hq).trans (a4 q hq), fun j h0 h5 => (b5 j h0 h5).trans (a5 j h0 h5)⟩
  by_cases c : t < m
  · dsimp only
    rw [if_pos c, b3 _ (by omega)]; exact a2 t c
  · dsimp only
    rw [if_neg c]
    have := b2 (t - m) (by omega)
    rw [show n + m + (t - m) = n + t by omega] at this
    exact this
/-- the tape alone is another -/
theorem dI_tape (h : dI σ μ P p B I H f) (hσ : ∀ q, q ≠ 7 → σ' (0, 0, 0) q = σ (0, 0, 0) q) (hσ2 : ∀ j, j ≠ (0, 0, 0) → j ≠ (5, 0, 0) → σ' j = σ j) (hμ : ∀ q, q ≠ 2 → μ' (0, 0, 0) q = μ (0, 0, 0) q) (hμ2 : ∀ j, j ≠ (0, 0, 0) → j ≠ (1, 1, 0) → μ' j = μ j) (tl : ∃ n, n ≤ 700 ∧ σ' (0, 0, 0) 7 = dn n ∧ μ' (0, 0, 0) 2 = dn n ∧ ∀ t, t < n → ∃ c, c < 256 ∧ μ' (1, 1, 0) t = dn c ∧ σ' (5, 0, 0) t &&& 255 = dn c) : dI σ' μ' P p B I H f := by
  have hC : ∀ {k : Nat} {B : dB}, dC σ k p P B → dC σ' k p P B := fun {k B} g => dC_e (fun j hj => hσ2 j (fun e => by rw [e] at hj; simp at hj) (fun e => by rw [e] at hj; simp at hj)) g
  have hs : ∀ a, a ≠ 1 → μ' (1, a, 0) = μ (1, a, 0) := fun a ha => hμ2 _ (by simp) (by simp [ha])
  have hP : dMP μ' P := by
    have h := h.M.P
    exact ⟨by rw [hs 3 (by omega)]; exact h.n, by rw [hs 3 (by omega)]; exact h.m, by rw [hs 3 (by omega)]; exact h.st, by rw [hs 3 (by omega)]; exact h.droop, by rw [hs 3 (by omega)]; exact h.fall, by rw [hs 3 (by omega)]; exact h.low, by rw [hs 3 (by omega)]; exact h.budget, by rw [hs 3 (by omega)]; exact h.seed, by rw [hs 3 (by omega)]; exact h.filter, by rw [hs 3 (by omega)]; exact h.times, by rw [hs 3 (by omega)]; exact h.hold, fun a ha i hi => by rw [hs _ (by omega)]; exact h.a a ha i hi, fun i hi => by rw [hs _ (by omega)]; exact h.dir i hi, fun i hi => by rw [hs _ (by omega)]; exact h.hang i hi, fun a h1 h2 i hi => by rw [hs _ (by omega)]; exact h.s a h1 h2 i hi⟩
  refine ⟨h.W, h.pp, by rw [hσ _ (by omega)]; exact h.cp, by rw [hσ2 _ (by simp) (by simp)]; exact h.rp, hC h.C, ⟨by rw [hs 28 (by omega)]; exact h.M.s, hP⟩, h.ok, by rw [hσ _ (by omega)]; exact h.ik, by rw [hμ _ (by omega)]; exact h.im, fun Bi hi => ?_, h.hl, h.hf, by rw [hσ _ (by omega)]; exact h.pf, by rw [hσ _ (by omega)]; exact h.pc, by rw [hμ _ (by omega)]; exact h.uc, fun t ht => ?_, tl, by rw [hσ _ (by omega), hμ _ (by omega)]; exact h.fk, by rw [hσ _ (by omega), hμ _ (by omega)]; exact h.fp, fun k hk τ => by rw [hσ2 _ (by simp) (by simp)]; exact h.wl k hk τ⟩
  · obtain ⟨g1, g2, g3⟩ := h.i Bi hi
    exact ⟨hC g1, by rw [hs 30 (by omega)]; exact g2, g3⟩
  · obtain ⟨g1, g2, g3⟩ := h.h t ht
    exact ⟨hC g1, by rw [hs 31 (by omega)]; exact g2, g3⟩
def dwords (a b c d e : Int32) (t : Nat) : Int32 := dwd (if t < 4 then a else if t < 8 then b else if t < 12 then c else if t < 16 then d else e) (t % 4)
theorem dfeedM {n : Nat} {a b c d e : Int32} (h : μ (0, 0, 0) 2 = dn n) (hn : n + 20 ≤ 700) : dw (px_it (Mo_feed_L20 a b c d e) px_N (0, μ)) (fun τ => (∀ t, t < 20 → τ (1, 1, 0) (n + t) = dwords a b c d e t) ∧ (∀ x, x < n → τ (1, 1, 0) x = μ (1, 1, 0) x) ∧ ∀ j, j ≠ (1, 1, 0) → τ j = μ j) := by
  refine dw_up 20 (by unfold px_N; omega) (fun t s => s.1 = dn t ∧ (∀ x, x < t → s.2 (1, 1, 0) (n + x) = dwords a b c d e x) ∧ (∀ x, x < n → s.2 (1, 1, 0) x = μ (1, 1, 0) x) ∧ ∀ j, j ≠ (1, 1, 0) → s.2 j = μ j) (fun t s ht hI => ?_) (fun s hI => ?_) (Nat.zero_le _) ⟨rfl, fun t ht => absurd ht (by omega), fun _ _ => rfl, fun _ _ => rfl⟩
  · obtain ⟨v, τ⟩ := s
    obtain ⟨rfl, h1, h2, h3⟩ := hI
    dsimp only at h1 h2 h3
    show dw (Mo_feed_n20 τ a b c d e (dn t)) _
    unfold Mo_feed_n20
    have em : dn t - dn t / 4 * 4 = dn (t % 4) := dn_mod (m := 4) (by omega) (by omega) (by omega)
    have es : (24 : Int32) - 8 * dn (t % 4) = dn (24 - 8 * (t % 4)) := by
      rw [show (8 : Int32) = dn 8 from rfl, dn_mul, show (24 : Int32) = dn 24 from rfl, dn_sub (by omega)]
    rw [if_neg (by rw [show (20 : Int32) = dn 20 from rfl, dn_le (by omega) (by omega)]; omega), h3 _ (by simp), h, dn_add, em, es, dn_nat (show n + t < 2147483648 by omega)]
    have key : ∀ {QQ : pxS → Prop} (w : Int32), w = (if t < 4 then a else if t < 8 then b else if t < 12 then c else if t < 16 then d else e) → dw (px_gd (dn (n + t)) 700 (px_l (px_up τ (1, 1, 0) (n + t) ((w >>> (dn (24 - 8 * (t % 4)) &&& 31)) &&& 255)) fun σ3 => (some (.inl (dn t + 1, σ3)) : Option ((Int32 × pxS) ⊕ pxS)))) (dR (fun s => s.1 = dn (t + 1) ∧ (∀ x, x < t + 1 → s.2 (1, 1, 0) (n + x) = dwords a b c d e x) ∧ (∀ x, x < n → s.2 (1, 1, 0) x = μ (1, 1, 0) x) ∧ ∀ j, j ≠ (1, 1, 0) → s.2 j = μ j) QQ) := fun w hw => by
      refine dw_gi (by omega) (by omega) ?_
      simp only [dw_l, dw_some, dR_l]
      refine ⟨dn_suc t, fun x hx => ?_, fun x hx => ?_, fun j hj => ?_⟩
      · rw [px_up_du]
        by_cases e : x = t
        · subst e
          rw [du_eq, hw]; rfl
        · rw [du_ne (by omega)]; exact h1 x (by omega)
      · rw [px_up_du, du_ne (by omega)]; exact h2 x hx
      · rw [← h3 j hj]
        funext x
        simp [px_up, hj]
    by_cases c4 : t < 4
    · rw [if_neg (by rw [show (4 : Int32) = dn 4 from rfl, dn_le (by omega) (by omega)]; omega)]
      exact key a (by rw [if_pos c4])
    rw [if_pos (by rw [show (4 : Int32) = dn 4 from rfl, dn_le (by omega) (by omega)]; omega)]
    by_cases c8 : t < 8
    · rw [if_neg (by rw [show (8 : Int32) = dn 8 from rfl, dn_le (by omega) (by omega)]; omega)]
      exact key b (by rw [if_neg c4, if_pos c8])
    rw [if_pos (by rw [show (8 : Int32) = dn 8 from rfl, dn_le (by omega) (by omega)]; omega)]
    by_cases c12 : t < 12
    · rw [if_neg (by rw [show (12 : Int32) = dn 12 from rfl, dn_le (by omega) (by omega)]; omega)]
      exact key c (by rw [if_neg c4, if_neg c8, if_pos c12])
    rw [if_pos (by rw [show (12 : Int32) = dn 12 from rfl, dn_le (by omega) (by omega)]; omega)]
    by_cases c16 : t < 16
    · rw [if_neg (by rw [show (16 : Int32) = dn 16 from rfl, dn_le (by omega) (by omega)]; omega)]
      exact key d (by rw [if_neg c4, if_neg c8, if_neg c12, if_pos c16])
    rw [if_pos (by rw [show (16 : Int32) = dn 16 from rfl, dn_le (by omega) (by omega)]; omega)]
    exact key e (by rw [if_neg c4, if_neg c8, if_neg c12, if_neg c16])
  · obtain ⟨v, τ⟩ := s
    obtain ⟨rfl, h1, h2, h3⟩ := hI
    show dw (Mo_feed_n20 τ a b c d e (dn 20)) _
    unfold Mo_feed_n20
    rw [if_pos (by decide)]
    simp only [dw_some, dR_r]
    exact ⟨h1, h2, h3⟩
theorem dS_feed (h : dI σ μ P p B I H f) (a b c d e : Int32) : dSt (F_PR_feed σ a b c d e) (F_Mo_feed μ a b c d e) := by
  unfold F_Mo_feed
  have h := dI_th (v := 0) h
  rw [px_l]
  generalize px_up μ (0, 0, 0) 0 0 = μ at h
  unfold F_PR_feed
  obtain ⟨n, n1, t1, t2, t3⟩ := h.tl
  rw [t1, t2, show dn n + 20 = dn (n + 20) from dn_add n 20]
  by_cases hc : n ≤ 680
  · have h1 : dn (n + 20) ≤ 700 := by rw [show (700 : Int32) = dn 700 from rfl, dn_le (by omega) (by omega)]; omega
    have h2 : dn n ≤ 680 := by rw [show (680 : Int32) = dn 680 from rfl, dn_le (by omega) (by omega)]; omega
    rw [if_pos h1, if_pos h2, dSt, dw_b1]
    refine dw_mono (dput t1 (by omega)) fun σ1 p1 => ?_
    rw [dw_b1]
    refine dw_mono (dput p1.1 (by omega)) fun σ2 p2 => ?_
    rw [dw_b1]
    refine dw_mono (dput p2.1 (by omega)) fun σ3 p3 => ?_
    rw [dw_b1]
    refine dw_mono (dput p3.1 (by omega)) fun σ4 p4 => ?_
    rw [dw_b1]
    refine dw_mono (dput p4.1 (by omega)) fun σ5 p5 => dw_some.mpr ?_
    have pp := dPW_2 p1 (dPW_2 p2 (dPW_2 p3 (dPW_2 p4 p5)))
    obtain ⟨q1, q2, q3, q4, q5⟩ := pp
    rw [dw_b1]
    refine dw_mono (dfeedM t2 (by omega)) fun μ1 ⟨m1, m2, m3⟩ => ?_
    rw [dw_l, dw_some]
    have u2 : μ1 (0, 0, 0) 2 + 20 = dn (n + 20) := by rw [m3 _ (by simp), t2]; exact dn_add n 20
    refine ⟨by rw [q1, up_0, if_pos rfl, u2], P, p, B, I, H, f, ?_⟩
    dsimp only
    refine dI_tape h q4 q5 (fun q hq => by rw [up_0, if_neg hq, m3 _ (by simp)]) (fun j h0 h1 => by rw [up_o h0, m3 j h1]) ⟨n + 20, by omega, q1, by rw [up_0, if_pos rfl, u2], fun t ht => ?_⟩
    rw [up_o (by simp)]
    by_cases ct : t < n
    · rw [m2 t ct, q3 t ct]; exact t3 t ct
    · obtain ⟨x, rfl⟩ : ∃ x, t = n + x := ⟨t - n, by omega⟩
      rw [m1 x (by omega), q2 x (by omega)]
      have ee : (if x < 4 then dwd a x else (if x - 4 < 4 then dwd b (x - 4) else (if x - 4 - 4 < 4 then dwd c (x - 4 - 4) else (if x - 4 - 4 - 4 < 4 then dwd d (x - 4 - 4 - 4) else dwd e (x - 4 - 4 - 4 - 4))))) = dwords a b c d e x := by
        unfold dwords
        by_cases c4 : x < 4
        · rw [if_pos c4, if_pos c4, show x % 4 = x by omega]
        rw [if_neg c4, if_neg c4]
        by_cases c8 : x < 8
        · rw [if_pos (by omega), if_pos c8, show x % 4 = x - 4 by omega]
        rw [if_neg (by omega), if_neg c8]
        by_cases c12 : x < 12
        · rw [if_pos (by omega), if_pos c12, show x % 4 = x - 4 - 4 by omega]
        rw [if_neg (by omega), if_neg c12]
        by_cases c16 : x < 16
        · rw [if_pos (by omega), if_pos c16, show x % 4 = x - 4 - 4 - 4 by omega]
        rw [if_neg (by omega), if_neg c16, show x % 4 = x - 4 - 4 - 4 - 4 by omega]
      dsimp only
      rw [ee]
      obtain ⟨y, hy, ey⟩ := d255 ((if x < 4 then a else if x < 8 then b else if x < 12 then c else if x < 16 then d else e) >>> (dn (24 - 8 * (x % 4)) &&& 31))
      exact ⟨y, hy, ey, ey⟩
  · have h1 : ¬ dn (n + 20) ≤ 700 := by rw [show (700 : Int32) = dn 700 from rfl, dn_le (by omega) (by omega)]; omega
    have h2 : ¬ dn n ≤ 680 := by rw [show (680 : Int32) = dn 680 from rfl, dn_le (by omega) (by omega)]; omega
    rw [if_neg h1, if_neg h2]; exact dSt_2 rfl h
end G1
end
section
/-! who never rises -/
def dIn (P : dP) : Nat → Int32
  | 0 => 0
  | t + 1 => dIn P t ||| (P.2.2.2 9 t &&& (1 <<< (dn t &&& 31)))
def dNv (P : dP) (S : Int32) : Nat → Int32
  | 0 => S
  | t + 1 => if P.2.2.2 9 t &&& S = 0 then dNv P S t else dNv P S t ||| (1 <<< (dn t &&& 31))
theorem db_in {P : dP} {i : Nat} : ∀ {t : Nat}, t ≤ 32 → db (dIn P t) i = (decide (i < t) && db (P.2.2.2 9 i) i) := by
  intro t
  induction t with
  | zero => intro _; simp [dIn, db_zero]
  | succ t ih =>
    intro ht
    unfold dIn
    rw [db_or, ih (by omega), db_and, db_one (by omega)]
    by_cases e : t = i
    · subst e; simp
    · have : i < t + 1 ↔ i < t := by omega
      simp [e, this]
section G2
variable {σ σ' μ μ' : pxS} {P : dP} {k p f : Nat} {B B' : dB} {I : Option dB} {H : List dB}
theorem dC_in (h : dCP σ p P) (hp : p < 2) (hn : P.1 ≤ 12) : F_Ri_within σ (dn p) = some (dIn P P.1) := by
  suffices hh : dw (F_Ri_within σ (dn p)) (fun r => r = dIn P P.1) by
    obtain ⟨a, e, rfl⟩ := hh; exact e
  unfold F_Ri_within
  rw [dw_b1]
  refine dw_up P.1 (by unfold px_N; omega) (fun t s => s.1 = dIn P t ∧ s.2 = dn t) (fun t s ht hI => ?_) (fun s hI => ?_) (Nat.zero_le _) ⟨rfl, rfl⟩
  · obtain ⟨v3, v4⟩ := s
    obtain ⟨rfl, rfl⟩ := hI
    show dw (Ri_within_n4 σ (dn p) _ _) _
    unfold Ri_within_n4
    rw [dn_nat (show p < 2147483648 by omega), h.n, if_neg (by rw [dn_le (by omega) (by omega)]; omega)]
    refine dw_gi (by omega) (by omega) ?_
    rw [dn_nat (by omega), h.a 9 (by omega) t ht]
    simp only [dw_some, dR_l]
    exact ⟨rfl, dn_suc t⟩
  · obtain ⟨v3, v4⟩ := s
    obtain ⟨rfl, rfl⟩ := hI
    show dw (Ri_within_n4 σ (dn p) _ _) _
    unfold Ri_within_n4
    rw [dn_nat (show p < 2147483648 by omega), h.n, if_pos (by rw [dn_le (by omega) (by omega)]; omega)]
    simp only [dw_some, dR_r]
theorem dM_in (h : dM μ P B) (hn : P.1 ≤ 12) : F_Mo_inRings μ = some (dIn P P.1) := by
  suffices hh : dw (F_Mo_inRings μ) (fun r => r = dIn P P.1) by
    obtain ⟨a, e, rfl⟩ := hh; exact e
  unfold F_Mo_inRings
  rw [dw_b1]
  refine dw_up P.1 (by unfold px_N; omega) (fun t s => s.1 = dIn P t ∧ s.2 = dn t) (fun t s ht hI => ?_) (fun s hI => ?_) (Nat.zero_le _) ⟨rfl, rfl⟩
  · obtain ⟨v3, v4⟩ := s
    obtain ⟨rfl, rfl⟩ := hI
    show dw (Mo_inRings_n4 μ _ _) _
    unfold Mo_inRings_n4
    refine dw_v (dM_n h) ?_
    rw [if_neg (by rw [dn_le (by omega) (by omega)]; omega)]
    refine dw_gi (by omega) (by omega) ?_
    rw [dn_nat (by omega), h.P.hang t ht]
    simp only [dw_some, dR_l]
    exact ⟨rfl, dn_suc t⟩
  · obtain ⟨v3, v4⟩ := s
    obtain ⟨rfl, rfl⟩ := hI
    show dw (Mo_inRings_n4 μ _ _) _
    unfold Mo_inRings_n4
    refine dw_v (dM_n h) ?_
    rw [if_pos (by rw [dn_le (by omega) (by omega)]; omega)]
    simp only [dw_some, dR_r]
theorem dG_never (h : dI σ μ P p B I H f) (v : Int32) : dGt σ P p B I H f (F_PR_never σ v) (F_Mo_never μ v) := by
  unfold F_PR_never F_Mo_never Mo_never_n14
  have h := dI_th (v := 0) h
  rw [px_l]
  generalize px_up μ (0, 0, 0) 0 0 = μ at h
  have hn := h.W.wp.n
  have hp := h.pp
  rw [h.cp]
  -- the reference's loop
  have lo : ∀ (S : Int32), dw (px_it (Mo_never_L26 μ v S) px_N (S, 0)) (fun r => r = if v = 1 then dNv P S P.1 else S) := fun S => by
    by_cases c1 : v = 1
    · rw [if_pos c1]
      refine dw_up P.1 (by unfold px_N; omega) (fun t s => s.1 = dNv P S t ∧ s.2 = dn t) (fun t s ht hI => ?_) (fun s hI => ?_) (Nat.zero_le _) ⟨rfl, rfl⟩
      · obtain ⟨v3, v4⟩ := s
        obtain ⟨rfl, rfl⟩ := hI
        show dw (Mo_never_n26 μ v S _ _) _
        unfold Mo_never_n26 Mo_never_n59
        refine dw_v (dM_n h.M) ?_
        rw [if_neg (by rw [dn_le (by omega) (by omega)]; omega), if_pos c1]
        refine dw_gi (by omega) (by omega) ?_
        rw [dn_nat (by omega), h.M.P.hang t ht]
        by_cases c2 : P.2.2.2 9 t &&& S = 0
        · rw [if_pos c2]
          simp only [dw_some, dR_l]
          exact ⟨by rw [dNv, if_pos c2], dn_suc t⟩
        · rw [if_neg c2]
          simp only [dw_some, dR_l]
          exact ⟨by rw [dNv, if_neg c2], dn_suc t⟩
      · obtain ⟨v3, v4⟩ := s
        obtain ⟨rfl, rfl⟩ := hI
        show dw (Mo_never_n26 μ v S _ _) _
        unfold Mo_never_n26
        refine dw_v (dM_n h.M) ?_
        rw [if_pos (by rw [dn_le (by omega) (by omega)]; omega)]
        simp only [dw_some, dR_r]
    · rw [if_neg c1]
      refine dw_it (fun _ s => s = (S, 0)) (fun k s hI => ?_) px_N 0 (S, 0) (by unfold px_N; omega) rfl
      subst hI
      show dw (Mo_never_n26 μ v S S 0) _
      unfold Mo_never_n26
      refine dw_v (dM_n h.M) ?_
      rw [if_neg c1]
      by_cases c2 : dn P.1 ≤ 0
      · rw [if_pos c2]; simp only [dw_some, dR_r]
      · rw [if_neg c2]; simp only [dw_some, dR_r]
  by_cases c0 : v = 0
  · have h0 : ¬ v < 0 := by rw [c0]; decide
    have h1 : v ≤ 1 := by rw [c0]; decide
    rw [if_pos c0, if_neg h0, if_pos h1]
    refine dw_v (dC_in h.C.P hp hn) (dw_some.mpr (dw_v (dM_in h.M hn) (dw_b1.mpr (dw_mono (lo _) fun r hr => dw_some.mpr ⟨?_, h⟩))))
    rw [hr, if_neg (by rw [c0]; decide)]
  · rw [if_neg c0]
    by_cases c1 : v = 1
    · have h0 : ¬ v < 0 := by rw [c1]; decide
      have h1 : v ≤ 1 := by rw [c1]; decide
      rw [if_pos c1, if_neg h0, if_pos h1]
      unfold F_Ri_withinOrAbove
      rw [dGt, dw_b1]
      refine dw_v (dC_in h.C.P hp hn) ?_
      rw [dw_b1]
      refine dw_mono (P := fun r => r = dNv P (dIn P P.1) P.1) ?_ fun r hr => dw_some.mpr (dw_some.mpr (dw_v (dM_in h.M hn) (dw_b1.mpr (dw_mono (lo _) fun r' hr' => dw_some.mpr ⟨?_, h⟩))))
      · refine dw_up P.1 (by unfold px_N; omega) (fun t s => s.1 = dNv P (dIn P P.1) t ∧ s.2 = dn t) (fun t s ht hI => ?_) (fun s hI => ?_) (Nat.zero_le _) ⟨rfl, rfl⟩
        · obtain ⟨v3, v4⟩ := s
          obtain ⟨rfl, rfl⟩ := hI
          show dw (Ri_withinOrAbove_n9 σ (dn p) _ _ _) _
          unfold Ri_withinOrAbove_n9 Ri_withinOrAbove_n34
          rw [dn_nat (show p < 2147483648 by omega), h.C.P.n, if_neg (by rw [dn_le (by omega) (by omega)]; omega)]
          refine dw_gi (by omega) (by omega) ?_
          rw [dn_nat (by omega), h.C.P.a 9 (by omega) t ht]
          by_cases c2 : P.2.2.2 9 t &&& dIn P P.1 = 0
          · rw [if_pos c2]
            simp only [dw_some, dR_l]
            exact ⟨by rw [dNv, if_pos c2], dn_suc t⟩
          · rw [if_neg c2]
            simp only [dw_some, dR_l]
            exact ⟨by rw [dNv, if_neg c2], dn_suc t⟩
        · obtain ⟨v3, v4⟩ := s
          obtain ⟨rfl, rfl⟩ := hI
          show dw (Ri_withinOrAbove_n9 σ (dn p) _ _ _) _
          unfold Ri_withinOrAbove_n9
          rw [dn_nat (show p < 2147483648 by omega), h.C.P.n, if_pos (by rw [dn_le (by omega) (by omega)]; omega)]
          simp only [dw_some, dR_r]
      · rw [hr, hr', if_pos c1]
    · rw [if_neg c1]
      by_cases c2 : v < 0
      · rw [if_pos c2]; exact dGt_2 rfl h
      · rw [if_neg c2]
        have c3 : ¬ v ≤ 1 := by
          rcases dn_cases v with z | ⟨j, hj, rfl⟩
          · exact absurd z c2
          · have e0 : j ≠ 0 := fun e => c0 (by rw [e]; rfl)
            have e1 : j ≠ 1 := fun e => c1 (by rw [e]; rfl)
            rw [show (1 : Int32) = dn 1 from rfl, dn_le (by omega) (by omega)]
            omega
        rw [if_neg c3]; exact dGt_2 rfl h
end G2
end
section
/-! rings: who hangs on whom over how many links -/
theorem dand0 {x y : Int32} : x &&& y = 0 ↔ ∀ i, i < 32 → ¬ (db x i = true ∧ db y i = true) := by
  constructor
  · intro h i hi z
    have : db (x &&& y) i = true := by rw [db_and, z.1, z.2]; rfl
    rw [h, db_zero] at this
    exact absurd this (by decide)
  · intro h
    apply db_ext
    intro i hi
    rw [db_and, db_zero]
    cases a : db x i with
    | false => rfl
    | true =>
      cases b : db y i with
      | false => rfl
      | true => exact absurd ⟨a, b⟩ (h i hi)
section G3a
variable {P : dP} {g : Nat}
theorem dHop_i {L i : Nat} : dHop P g L i = true ↔ ∃ o, o < P.1 ∧ db (P.2.2.2 8 i) o = true ∧ dRc P g L o = true := by
  unfold dHop
  rw [List.any_eq_true]
  constructor
  · intro ⟨o, h1, h2⟩
    rw [Bool.and_eq_true] at h2
    exact ⟨o, List.mem_range.mp h1, h2.1, h2.2⟩
  · intro ⟨o, h1, h2, h3⟩
    exact ⟨o, List.mem_range.mpr h1, by rw [Bool.and_eq_true]; exact ⟨h2, h3⟩⟩
theorem dRc_s {L i : Nat} : dRc P g (L + 1) i = (dRc P g L i || (decide (i < P.1) && dHop P g L i)) := rfl
theorem dRc_le {i : Nat} : ∀ {L L' : Nat}, L ≤ L' → dRc P g L i = true → dRc P g L' i = true := by
  intro L L'
  induction L' with
  | zero => intro h; rw [Nat.le_zero.mp h]; exact id
  | succ L' ih =>
    intro h z
    by_cases e : L = L' + 1
    · rw [← e]; exact z
    · rw [dRc_s, ih (by omega) z]; rfl
theorem dHop_le {i L L' : Nat} (h : L ≤ L') (z : dHop P g L i = true) : dHop P g L' i = true := by
  rw [dHop_i] at z ⊢
  obtain ⟨o, h1, h2, h3⟩ := z
  exact ⟨o, h1, h2, dRc_le h h3⟩
/-- behind the first, who reaches does so over a link -/
theorem dRc_h {i : Nat} (hi : i < P.1) (hg : i ≠ g) : ∀ L, dRc P g (L + 1) i = dHop P g L i := by
  intro L
  induction L with
  | zero =>
    rw [dRc_s]
    have : dRc P g 0 i = false := by show decide (i = g) = false; simp [hg]
    rw [this]; simp [hi]
  | succ L ih =>
    rw [dRc_s, ih]
    cases e : dHop P g L i with
    | false => simp [hi]
    | true => rw [dHop_le (Nat.le_succ L) e]; rfl
/-- counting -/
def dcn (f : Nat → Bool) : Nat → Nat
  | 0 => 0
  | t + 1 => dcn f t + if f t = true then 1 else 0
theorem dcn_n (f : Nat → Bool) : ∀ n, dcn f n ≤ n := by
  intro n
  induction n with
  | zero => exact Nat.le_refl _
  | succ n ih => unfold dcn; split <;> omega
theorem dcn_le {f h : Nat → Bool} : ∀ n, (∀ i, i < n → f i = true → h i = true) → dcn f n ≤ dcn h n := by
  intro n
  induction n with
  | zero => intro _; exact Nat.le_refl _
  | succ n ih =>
    intro z
    have := ih fun i hi => z i (by omega)
    unfold dcn
    by_cases c : f n = true
    · rw [if_pos c, if_pos (z n (by omega) c)]; omega
    · rw [if_neg c]; omega
theorem dcn_lt {f h : Nat → Bool} {o : Nat} : ∀ n, (∀ i, i < n → f i = true → h i = true) → o < n → h o = true → f o = false → dcn f n < dcn h n := by
  intro n
  induction n with
  | zero => intro _ ho; exact absurd ho (by omega)
  | succ n ih =>
    intro z ho h1 h2
    unfold dcn
    by_cases e : o = n
    · subst e
      have := dcn_le o fun i hi => z i (by omega)
      rw [h1, h2]
      simp
      omega
    · have := ih (fun i hi => z i (by omega)) (by omega) h1 h2
      by_cases c : f n = true
      · rw [if_pos c, if_pos (z n (by omega) c)]; omega
      · rw [if_neg c]; omega
/-- over n - 1 links all is reached that is reached at all -/
theorem dRc_st (hg : g < P.1) {L o : Nat} (ho : o < P.1) (h : dRc P g L o = true) : dRc P g (P.1 - 1) o = true := by
  have key : ∀ L, (∃ l, l < L ∧ ∀ o, o < P.1 → dRc P g (l + 1) o = true → dRc P g l o = true) ∨ L + 1 ≤ dcn (dRc P g L) P.1 := by
    intro L
    induction L with
    | zero =>
      right
      have := dcn_lt (f := fun _ => false) (h := dRc P g 0) (o := g) P.1 (fun i _ z => by cases z) hg (by show decide (g = g) = true; simp) rfl
      omega
    | succ L ih =>
      rcases ih with ⟨l, h1, h2⟩ | h1
      · exact Or.inl ⟨l, by omega, h2⟩
      · by_cases c : ∃ o, o < P.1 ∧ dRc P g (L + 1) o = true ∧ dRc P g L o = false
        · right
          obtain ⟨o, c1, c2, c3⟩ := c
          have := dcn_lt (f := dRc P g L) (h := dRc P g (L + 1)) P.1 (fun i _ z => dRc_le (Nat.le_succ L) z) c1 c2 c3
          omega
        · left
          refine ⟨L, by omega, fun o ho z => ?_⟩
          cases e : dRc P g L o with
          | true => rfl
          | false => exact absurd ⟨o, ho, z, e⟩ c
  rcases key P.1 with ⟨l, h1, h2⟩ | h1
  · have up : ∀ m, ∀ o, o < P.1 → dRc P g (l + m) o = true → dRc P g l o = true := by
      intro m
      induction m with
      | zero => intro o _ z; exact z
      | succ m ih =>
        intro o ho z
        have e : l + (m + 1) = (l + m) + 1 := by omega
        rw [e, dRc_s] at z
        rcases Bool.or_eq_true _ _ ▸ z with y | y
        · exact ih o ho y
        · rw [Bool.and_eq_true, dHop_i] at y
          obtain ⟨_, x, x1, x2, x3⟩ := y
          apply h2 o ho
          rw [dRc_s]
          have : dHop P g l o = true := dHop_i.mpr ⟨x, x1, x2, ih x x1 x3⟩
          rw [this]; simp [ho]
    by_cases c : L ≤ P.1 - 1
    · exact dRc_le c h
    · refine dRc_le (by omega) (up (L - l) o ho ?_)
      rw [show l + (L - l) = L by omega]; exact h
  · have := dcn_n (dRc P g P.1) P.1
    omega
theorem dHop_st (hg : g < P.1) {L i : Nat} (h : dHop P g L i = true) : dHop P g (P.1 - 1) i = true := by
  rw [dHop_i] at h ⊢
  obtain ⟨o, h1, h2, h3⟩ := h
  exact ⟨o, h1, h2, dRc_st hg h1 h3⟩
/-- the least of a set -/
def dLst (c : Nat → Bool) (n : Nat) : Nat := ((List.range n).find? c).getD 0
def dLe (c : Nat → Bool) (m : Nat) : Prop := c m = true ∧ ∀ j, j < m → c j = false
theorem dLe_1 {c : Nat → Bool} {m m' : Nat} (h : dLe c m) (h' : dLe c m') : m = m' := by
  rcases Nat.lt_trichotomy m m' with z | z | z
  · have := h'.2 m z
    rw [h.1] at this; exact absurd this (by decide)
  · exact z
  · have := h.2 m' z
    rw [h'.1] at this; exact absurd this (by decide)
theorem dLe_ex {c : Nat → Bool} : ∀ {n : Nat}, (∃ o, o < n ∧ c o = true) → ∃ m, m < n ∧ dLe c m := by
  intro n
  induction n with
  | zero => intro ⟨o, h, _⟩; exact absurd h (by omega)
  | succ n ih =>
    intro ⟨o, h1, h2⟩
    by_cases z : ∃ o, o < n ∧ c o = true
    · obtain ⟨m, m1, m2⟩ := ih z
      exact ⟨m, by omega, m2⟩
    · refine ⟨n, by omega, ?_, fun j hj => ?_⟩
      · by_cases e : o = n
        · rw [← e]; exact h2
        · exact absurd ⟨o, by omega, h2⟩ z
      · cases e : c j with
        | false => rfl
        | true => exact absurd ⟨j, hj, e⟩ z
/-- the walk round the ring -/
abbrev dWk (P : dP) (g R k i : Nat) : Prop := (i < P.1) ∧ (dHop P g (R - k - 1) i = true) ∧ (∀ L, L < R - k - 1 → dHop P g L i = false)
theorem dWk.hi {P : dP} {g R k i : Nat} (h0 : dWk P g R k i) : i < P.1 := h0.1
theorem dWk.h {P : dP} {g R k i : Nat} (h0 : dWk P g R k i) : dHop P g (R - k - 1) i = true := h0.2.1
theorem dWk.l {P : dP} {g R k i : Nat} (h0 : dWk P g R k i) : ∀ L, L < R - k - 1 → dHop P g L i = false := h0.2.2
theorem dWk_n {R k i : Nat} (h : dWk P g R k i) (hk : k + 1 < R) : ∃ o, o < P.1 ∧ (db (P.2.2.2 8 i) o && dRc P g (R - (k + 1)) o) = true := by
  have := h.h
  rw [dHop_i] at this
  obtain ⟨o, h1, h2, h3⟩ := this
  exact ⟨o, h1, by rw [Bool.and_eq_true]; exact ⟨h2, dRc_le (by omega) h3⟩⟩
theorem dWk_s {R k i o : Nat} (h : dWk P g R k i) (hk : k + 1 < R) (ho : o < P.1) (hc : (db (P.2.2.2 8 i) o && dRc P g (R - (k + 1)) o) = true) : dWk P g R (k + 1) o ∧ o ≠ g := by
  rw [Bool.and_eq_true] at hc
  obtain ⟨c1, c2⟩ := hc
  have no : ∀ L, L < R - k - 1 → dRc P g L o = false := fun L hL => by
    cases e : dRc P g L o with
    | false => rfl
    | true =>
      have := h.l L hL
      have z : dHop P g L i = true := dHop_i.mpr ⟨o, ho, c1, e⟩
      rw [this] at z; exact absurd z (by decide)
  have hog : o ≠ g := fun e => by
    have := no 0 (by omega)
    rw [e] at this
    exact absurd this (by show ¬ decide (g = g) = false; simp)
  refine ⟨⟨ho, ?_, fun L hL => ?_⟩, hog⟩
  · have e : R - (k + 1) = (R - (k + 1) - 1) + 1 := by omega
    rw [e, dRc_h ho hog] at c2
    exact c2
  · have := no (L + 1) (by omega)
    rw [dRc_h ho hog] at this
    exact this
/-- over how few links, by rounds; -1: none yet -/
def dDs (P : dP) (g r : Nat) : Nat → Int32
  | 0 => -1
  | m + 1 => if dDs P g r m = -1 then (if dHop P g m r = true then dn (m + 1) else -1) else dDs P g r m
theorem dDs_n {r : Nat} : ∀ m, m < 1000 → (dDs P g r m = -1 ↔ ∀ l, l < m → dHop P g l r = false) ∧ ∀ L, L < 1000 → (dDs P g r m = dn L ↔ 1 ≤ L ∧ L ≤ m ∧ dHop P g (L - 1) r = true ∧ ∀ l, l < L - 1 → dHop P g l r = false) := by
  intro m
  induction m with
  | zero =>
    intro _
    refine ⟨⟨fun _ l hl => absurd hl (by omega), fun _ => rfl⟩, fun L hL => ⟨fun z => ?_, fun z => absurd z.2.1 (by omega)⟩⟩
    exact absurd z.symm (dn_m1 (by omega))
  | succ m ih =>
    intro hm
    obtain ⟨i1, i2⟩ := ih (by omega)
    unfold dDs
    by_cases c : dDs P g r m = -1
    · rw [if_pos c]
      have h0 := i1.mp c
      by_cases c2 : dHop P g m r = true
      · rw [if_pos c2]
        refine ⟨⟨fun z => absurd z (dn_m1 (by omega)), fun z => ?_⟩, fun L hL => ⟨fun z => ?_, fun ⟨z1, z2, z3, z4⟩ => ?_⟩⟩
        · rw [z m (by omega)] at c2; exact absurd c2 (by decide)
        · rw [dn_inj (by omega) (by omega)] at z
          subst z
          exact ⟨by omega, Nat.le_refl _, c2, h0⟩
        · by_cases e : L = m + 1
          · rw [e]
          · rw [h0 (L - 1) (by omega)] at z3; exact absurd z3 (by decide)
      · rw [if_neg c2]
        have c2 : dHop P g m r = false := by simpa using c2
        refine ⟨⟨fun _ l hl => ?_, fun _ => rfl⟩, fun L hL => ⟨fun z => absurd z.symm (dn_m1 (by omega)), fun ⟨z1, z2, z3, z4⟩ => ?_⟩⟩
        · by_cases e : l = m
          · rw [e]; exact c2
          · exact h0 l (by omega)
        · by_cases e : L = m + 1
          · rw [e] at z3
            rw [show m + 1 - 1 = m by omega, c2] at z3; exact absurd z3 (by decide)
          · rw [h0 (L - 1) (by omega)] at z3; exact absurd z3 (by decide)
    · rw [if_neg c]
      refine ⟨⟨fun z => absurd z c, fun z => ?_⟩, fun L hL => ⟨fun z => ?_, fun ⟨z1, z2, z3, z4⟩ => ?_⟩⟩
      · exact absurd (i1.mpr fun l hl => z l (by omega)) c
      · obtain ⟨a, b, d, e⟩ := (i2 L hL).mp z
        exact ⟨a, by omega, d, e⟩
      · by_cases e : L = m + 1
        · exact absurd (i1.mpr fun l hl => z4 l (by omega)) c
        · exact (i2 L hL).mpr ⟨z1, by omega, z3, z4⟩
/-- a round's question: who has a link to one that is as far as the round ahead told -/
theorem dDs_q {r m : Nat} (hm : 1 ≤ m) (hm2 : m < 999) (h : dDs P g r m = -1) : dHop P g m r = true ↔ ∃ o, o < P.1 ∧ o ≠ g ∧ db (P.2.2.2 8 r) o = true ∧ dDs P g o m = dn m := by
  have h0 := (dDs_n m (by omega)).1.mp h
  constructor
  · intro z
    rw [dHop_i] at z
    obtain ⟨o, o1, o2, o3⟩ := z
    have no : ∀ l, l < m → dRc P g l o = false := fun l hl => by
      cases e : dRc P g l o with
      | false => rfl
      | true =>
        have z : dHop P g l r = true := dHop_i.mpr ⟨o, o1, o2, e⟩
        rw [h0 l hl] at z; exact absurd z (by decide)
    have hog : o ≠ g := fun e => by
      have := no 0 (by omega)
      rw [e] at this
      exact absurd this (by show ¬ decide (g = g) = false; simp)
    refine ⟨o, o1, hog, o2, ((dDs_n m (by omega)).2 m (by omega)).mpr ⟨hm, Nat.le_refl _, ?_, fun l hl => ?_⟩⟩
    · rw [show m = (m - 1) + 1 by omega, dRc_h o1 hog] at o3
      exact o3
    · have := no (l + 1) (by omega)
      rw [dRc_h o1 hog] at this
      exact this
  · intro ⟨o, o1, hog, o2, o3⟩
    obtain ⟨_, _, z, _⟩ := ((dDs_n m (by omega)).2 m (by omega)).mp o3
    refine dHop_i.mpr ⟨o, o1, o2, ?_⟩
    rw [show m = (m - 1) + 1 by omega, dRc_h o1 hog]
    exact z
end G3a
end
section
section G4
variable {σ σ' μ μ' : pxS} {P : dP} {k p f g : Nat} {B B' : dB} {I : Option dB} {H : List dB}
/-- the class: the lowest of a set -/
theorem dlow {x : Int32} (h : ∃ i, i < 12 ∧ db x i = true) : dw (F_Ri_lowest σ x) (fun r => ∃ m, m < 12 ∧ r = dn m ∧ dLe (db x) m) := by
  obtain ⟨m, m1, m2⟩ := dLe_ex h
  unfold F_Ri_lowest
  rw [dw_b1]
  refine dw_mono (P := fun r => r = dn m) ?_ fun r hr => dw_some.mpr ⟨m, m1, hr, m2⟩
  refine dw_up m (by unfold px_N; omega) (fun t s => s = dn t) (fun t s ht hI => ?_) (fun s hI => ?_) (Nat.zero_le _) rfl
  · subst hI
    show dw (Ri_lowest_n2 σ x (dn t)) _
    unfold Ri_lowest_n2
    rw [if_neg (by rw [show (12 : Int32) = dn 12 from rfl, dn_le (by omega) (by omega)]; omega), if_pos (by rw [db_sh0 (by omega)]; exact m2.2 t ht)]
    simp only [dw_some, dR_l]
    exact dn_suc t
  · subst hI
    show dw (Ri_lowest_n2 σ x (dn m)) _
    unfold Ri_lowest_n2
    rw [if_neg (by rw [show (12 : Int32) = dn 12 from rfl, dn_le (by omega) (by omega)]; omega), if_neg (by rw [db_sh0 (by omega), m2.1]; decide)]
    simp only [dw_some, dR_r]
theorem dhop0 {i L : Nat} {x : Int32} (hD : dWD P) (hn : P.1 ≤ 12) (hi : i < P.1) (hx : ∀ j, j < 32 → db x j = dRc P g L j) : P.2.2.2 8 i &&& x = 0 ↔ dHop P g L i = false := by
  rw [dand0]
  constructor
  · intro h
    cases e : dHop P g L i with
    | false => rfl
    | true =>
      rw [dHop_i] at e
      obtain ⟨o, o1, o2, o3⟩ := e
      exact absurd ⟨o2, by rw [hx o (by omega)]; exact o3⟩ (h o (by omega))
  · intro h o ho z
    have z1 := hD i hi o ho z.1
    have : dHop P g L i = true := dHop_i.mpr ⟨o, z1, z.1, by rw [← hx o ho]; exact z.2⟩
    rw [h] at this; exact absurd this (by decide)
/-- the class: who reaches a rail over at most so many links -/
theorem dreach {l : Nat} {v : Int32} (h : dCP σ p P) (hD : dWD P) (hp : p < 2) (hn : P.1 ≤ 12) (hg : g < P.1) (hl : l ≤ 12) (hv : v = dn l) : dw (F_Ri_reaching σ (dn p) (dn g) v) (fun x => ∀ i, i < 32 → db x i = dRc P g l i) := by
  subst hv
  unfold F_Ri_reaching
  rw [dw_b1]
  refine dw_mono (P := fun x => ∀ i, i < 32 → db x i = dRc P g l i) ?_ fun x hx => dw_some.mpr hx
  refine dw_up l (by unfold px_N; omega) (fun t s => s.2 = dn t ∧ ∀ i, i < 32 → db s.1 i = dRc P g t i) (fun t s ht hI => ?_) (fun s hI => ?_) (Nat.zero_le _) ⟨rfl, fun i hi => ?_⟩
  · obtain ⟨x, w⟩ := s
    obtain ⟨rfl, hx⟩ := hI
    dsimp only at hx
    show dw (Ri_reaching_n7 σ (dn p) (dn l) x (dn t)) _
    unfold Ri_reaching_n7
    rw [if_neg (by rw [dn_le (by omega) (by omega)]; omega), if_neg (by rw [show (12 : Int32) = dn 12 from rfl, dn_le (by omega) (by omega)]; omega), dw_b1]
    refine dw_mono (P := fun y => ∀ i, i < 32 → db y i = dRc P g (t + 1) i) ?_ fun y hy => ?_
    · refine dw_up P.1 (by unfold px_N; omega) (fun u s => s.2 = dn u ∧ ∀ i, i < 32 → db s.1 i = if i < u then dRc P g (t + 1) i else dRc P g t i) (fun u s hu hI => ?_) (fun s hI => ?_) (Nat.zero_le _) ⟨rfl, fun i hi => by rw [if_neg (by omega)]; exact hx i hi⟩
      · obtain ⟨y, w⟩ := s
        obtain ⟨rfl, hy⟩ := hI
        dsimp only at hy
        show dw (Ri_reaching_n26 σ (dn p) (dn l) x (dn t) y (dn u)) _
        unfold Ri_reaching_n26 Ri_reaching_n56
        rw [dn_nat (show p < 2147483648 by omega), h.n, if_neg (by rw [dn_le (by omega) (by omega)]; omega)]
        refine dw_gi (by omega) (by omega) ?_
        rw [dn_nat (by omega), h.a 8 (by omega) u hu]
        have hk := dhop0 hD hn hu hx
        by_cases c : P.2.2.2 8 u &&& x = 0
        · rw [if_pos c]
          simp only [dw_some, dR_l]
          refine ⟨dn_suc u, fun i hi => ?_⟩
          rw [hy i hi]
          by_cases e : i = u
          · subst e
            rw [if_neg (by omega), if_pos (by omega), dRc_s, hk.mp c]; simp
          · by_cases e2 : i < u
            · rw [if_pos e2, if_pos (by omega)]
            · rw [if_neg e2, if_neg (by omega)]
        · rw [if_neg c]
          simp only [dw_some, dR_l]
          refine ⟨dn_suc u, fun i hi => ?_⟩
          rw [db_or, hy i hi, db_one (by omega)]
          by_cases e : u = i
          · subst e
            rw [if_neg (by omega), if_pos (by omega), dRc_s]
            have : dHop P g t u = true := by
              cases e : dHop P g t u with
              | true => rfl
              | false => exact absurd (hk.mpr e) c
            rw [this]; simp [hu]
          · by_cases e2 : i < u
            · rw [if_pos e2, if_pos (by omega)]; simp [e]
            · rw [if_neg e2, if_neg (by omega)]; simp [e]
      · obtain ⟨y, w⟩ := s
        obtain ⟨rfl, hy⟩ := hI
        dsimp only at hy
        show dw (Ri_reaching_n26 σ (dn p) (dn l) x (dn t) y (dn P.1)) _
        unfold Ri_reaching_n26
        rw [dn_nat (show p < 2147483648 by omega), h.n, if_pos (by rw [dn_le (by omega) (by omega)]; omega)]
        simp only [dw_some, dR_r]
        intro i hi
        rw [hy i hi]
        by_cases e : i < P.1
        · rw [if_pos e]
        · rw [if_neg e, dRc_s]; simp [e]
    · simp only [dw_some, dR_l]
      exact ⟨dn_suc t, hy⟩
  · obtain ⟨x, w⟩ := s
    obtain ⟨rfl, hx⟩ := hI
    dsimp only at hx
    show dw (Ri_reaching_n7 σ (dn p) (dn l) x (dn l)) _
    unfold Ri_reaching_n7
    rw [if_pos (by rw [dn_le (by omega) (by omega)]; omega)]
    simp only [dw_some, dR_r]
    exact hx
  · show db (1 <<< (dn g &&& 31)) i = decide (i = g)
    rw [db_one (by omega)]
    simp [eq_comm]
/-- a ring's length -/
abbrev dRl' (P : dP) (g R : Nat) : Prop := (g < P.1) ∧ (1 ≤ R) ∧ (R ≤ P.1) ∧ (dHop P g (R - 1) g = true) ∧ (∀ L, L < R - 1 → dHop P g L g = false)
theorem dRl'.hg {P : dP} {g R : Nat} (h0 : dRl' P g R) : g < P.1 := h0.1
theorem dRl'.R1 {P : dP} {g R : Nat} (h0 : dRl' P g R) : 1 ≤ R := h0.2.1
theorem dRl'.Rn {P : dP} {g R : Nat} (h0 : dRl' P g R) : R ≤ P.1 := h0.2.2.1
theorem dRl'.h {P : dP} {g R : Nat} (h0 : dRl' P g R) : dHop P g (R - 1) g = true := h0.2.2.2.1
theorem dRl'.l {P : dP} {g R : Nat} (h0 : dRl' P g R) : ∀ L, L < R - 1 → dHop P g L g = false := h0.2.2.2.2
theorem dRl_ex {L : Nat} (hg : g < P.1) (h : dHop P g L g = true) : ∃ R, dRl' P g R := by
  have h1 := dHop_st hg h
  obtain ⟨m, m1, m2⟩ := dLe_ex (c := fun L => dHop P g L g) (n := P.1) ⟨P.1 - 1, by omega, h1⟩
  exact ⟨m + 1, hg, by omega, by omega, m2.1, fun L hL => m2.2 L (by omega)⟩
theorem dlinks {R : Nat} (h : dCP σ p P) (hD : dWD P) (hp : p < 2) (hn : P.1 ≤ 12) (hR : dRl' P g R) : F_Ri_linksBack σ (dn p) (dn g) = some (dn R) := by
  obtain ⟨hg, R1, Rn, Rh, Rl⟩ := hR
  suffices hh : dw (F_Ri_linksBack σ (dn p) (dn g)) (fun r => r = dn R) by
    obtain ⟨a, e, rfl⟩ := hh; exact e
  unfold F_Ri_linksBack
  rw [dw_b1]
  refine dw_mono (P := fun e : Nat × Int32 => e.1 = 0 ∧ e.2 = dn R) ?_ fun e he => by rw [if_pos he.1]; exact dw_some.mpr he.2
  have body : ∀ t, t < R → dw (Ri_linksBack_n2 σ (dn p) (dn g) (dn (t + 1))) (fun r => if t + 1 = R then r = .inr (0, dn R) else r = .inl (dn (t + 1) + 1)) := fun t ht => by
    unfold Ri_linksBack_n2
    rw [dn_nat (show p < 2147483648 by omega), h.n, if_neg (by rw [dn_lt (by omega) (by omega)]; omega)]
    refine dw_gi (by omega) (by omega) ?_
    rw [dn_nat (by omega), h.a 8 (by omega) g hg, dw_b1]
    refine dw_mono (dreach (g := g) (l := t) h hD hp hn hg (by omega) (dn_sub (i := t + 1) (j := 1) (by omega))) fun x hx => ?_
    have hk := dhop0 hD hn hg hx
    by_cases c : t + 1 = R
    · rw [if_neg (fun z => by
        have := hk.mp z
        rw [show t = R - 1 by omega, Rh] at this
        exact absurd this (by decide)), dw_some, if_pos c, c]
    · rw [if_pos (hk.mpr (Rl t (by omega))), dw_some, if_neg c]
  refine dw_up (R - 1) (by unfold px_N; omega) (fun t s => s = dn (t + 1)) (fun t s ht hI => ?_) (fun s hI => ?_) (Nat.zero_le _) rfl
  · subst hI
    refine dw_mono (body t (by omega)) fun r hr => ?_
    rw [if_neg (by omega)] at hr
    rw [hr]
    exact dn_suc _
  · subst hI
    refine dw_mono (body (R - 1) (by omega)) fun r hr => ?_
    rw [if_pos (by omega)] at hr
    rw [hr]
    exact ⟨rfl, rfl⟩
/-- the walk's place k -/
def dWi (P : dP) (g R : Nat) : Nat → Nat
  | 0 => g
  | k + 1 => dLst (fun o => db (P.2.2.2 8 (dWi P g R k)) o && dRc P g (R - (k + 1)) o) P.1
theorem dLst_ex {c : Nat → Bool} {n : Nat} (h : ∃ o, o < n ∧ c o = true) : dLst c n < n ∧ dLe c (dLst c n) := by
  unfold dLst
  cases e : (List.range n).find? c with
  | none =>
    obtain ⟨o, h1, h2⟩ := h
    have := List.find?_eq_none.mp e o (List.mem_range.mpr h1)
    exact absurd h2 this
  | some m =>
    have h1 := List.find?_some e
    have h2 := List.mem_of_find?_eq_some e
    rw [List.mem_range] at h2
    obtain ⟨m', m1, m2⟩ := dLe_ex h
    have h3 : m = m' := by
      rcases Nat.lt_trichotomy m m' with z | z | z
      · have := m2.2 m z
        rw [h1] at this; exact absurd this (by decide)
      · exact z
      · rw [List.find?_range_eq_some] at e
        have := e.2.2 m' z
        rw [m2.1] at this
        exact absurd this (by decide)
    subst h3
    exact ⟨h2, m2⟩
theorem dWi_k {R : Nat} (hR : dRl' P g R) : ∀ k, k < R → dWk P g R k (dWi P g R k) := by
  intro k
  induction k with
  | zero => intro _; exact ⟨hR.hg, hR.h, hR.l⟩
  | succ k ih =>
    intro hk
    have h1 := ih (by omega)
    obtain ⟨e1, e2⟩ := dLst_ex (dWk_n h1 hk)
    exact (dWk_s h1 hk e1 e2.1).1
theorem dring {R q : Nat} (h : dCP σ p P) (hD : dWD P) (hp : p < 2) (hn : P.1 ≤ 12) (hR : dRl' P g R) (hq : q < 2147483648) : dw (px_it (Ri_railAt_L30 σ (dn p) (dn q) (dn g)) px_N (dn R, dn g, 0)) (fun e => (if e.1 = 0 then -2 else e.2) = if q < R then dn (dWi P g R q) else -2) := by
  have Rn := hR.Rn
  have R1 := hR.R1
  have body : ∀ k, k < R → k < q → dw (Ri_railAt_n30 σ (dn p) (dn q) (dn g) (dn (R - k)) (dn (dWi P g R k)) (dn k)) (fun r => if k + 1 = R then r = .inr (0, 0) else r = .inl (dn (R - (k + 1)), dn (dWi P g R (k + 1)), dn k + 1)) := fun k hk hq => by
    have hW := dWi_k hR k hk
    have hwi := hW.hi
    have el : dn (R - k) + (-1) = dn (R - (k + 1)) := by
      rw [show R - k = (R - (k + 1)) + 1 by omega]; exact dn_pre _
    unfold Ri_railAt_n30
    rw [if_neg (by rw [dn_le (by omega) (by omega)]; omega), if_neg (by rw [show (12 : Int32) = dn 12 from rfl, dn_le (by omega) (by omega)]; omega)]
    refine dw_gi (by omega) (by omega) ?_
    rw [dn_nat (show dWi P g R k < 2147483648 by omega), dn_nat (show p < 2147483648 by omega), h.a 8 (by omega) _ hwi, dw_b1]
    refine dw_mono (dreach h hD hp hn hR.hg (show R - (k + 1) ≤ 12 by omega) el) fun x hx => ?_
    rw [el]
    have hk0 := dhop0 hD hn hwi hx
    by_cases c : k + 1 = R
    · rw [if_pos (by rw [show (0 : Int32) = dn 0 from rfl, dn_le (by omega) (by omega)]; omega), dw_some, if_pos c]
    · rw [if_neg (by rw [show (0 : Int32) = dn 0 from rfl, dn_le (by omega) (by omega)]; omega)]
      obtain ⟨o, o1, o2⟩ := dWk_n hW (show k + 1 < R by omega)
      have heq : ∀ j, j < 32 → db (P.2.2.2 8 (dWi P g R k) &&& x) j = (db (P.2.2.2 8 (dWi P g R k)) j && dRc P g (R - (k + 1)) j) := fun j hj => by rw [db_and, hx j hj]
      rw [if_neg (fun z => by
        have z0 : db (P.2.2.2 8 (dWi P g R k) &&& x) o = false := by rw [z, db_zero]
        rw [heq o (by omega), o2] at z0
        exact absurd z0 (by decide)), dw_b1]
      refine dw_mono (dlow ⟨o, by omega, by rw [heq o (by omega)]; exact o2⟩) fun r ⟨m, m1, m2, m3⟩ => ?_
      rw [dw_some, if_neg c, m2]
      have e2 := dLst_ex (c := fun o => db (P.2.2.2 8 (dWi P g R k)) o && dRc P g (R - (k + 1)) o) ⟨o, o1, o2⟩
      have m4 : dLe (fun o => db (P.2.2.2 8 (dWi P g R k)) o && dRc P g (R - (k + 1)) o) m := ⟨by
        have := m3.1
        rw [heq m (by omega)] at this; exact this, fun j hj => by
        have := m3.2 j hj
        rw [heq j (by omega)] at this; exact this⟩
      have : dWi P g R (k + 1) = m := dLe_1 e2.2 m4
      rw [this]
  by_cases c : q < R
  · rw [if_pos c]
    refine dw_up q (by unfold px_N; omega) (fun k s => s = (dn (R - k), dn (dWi P g R k), dn k)) (fun k s hk hI => ?_) (fun s hI => ?_) (Nat.zero_le _) rfl
    · subst hI
      refine dw_mono (body k (by omega) hk) fun r hr => ?_
      rw [if_neg (by omega)] at hr
      rw [hr, dR_l, dn_suc]
    · subst hI
      show dw (Ri_railAt_n30 σ (dn p) (dn q) (dn g) _ _ (dn q)) _
      unfold Ri_railAt_n30
      rw [if_pos (by rw [dn_le (by omega) (by omega)]; omega)]
      simp only [dw_some, dR_r]
      rw [if_neg (by decide)]
  · rw [if_neg c]
    refine dw_up (R - 1) (by unfold px_N; omega) (fun k s => s = (dn (R - k), dn (dWi P g R k), dn k)) (fun k s hk hI => ?_) (fun s hI => ?_) (Nat.zero_le _) rfl
    · subst hI
      refine dw_mono (body k (by omega) (by omega)) fun r hr => ?_
      rw [if_neg (by omega)] at hr
      rw [hr, dR_l, dn_suc]
    · subst hI
      refine dw_mono (body (R - 1) (by omega) (by omega)) fun r hr => ?_
      rw [if_pos (by omega)] at hr
      rw [hr, dR_r, if_pos rfl]
end G4
end
section
section G5
variable {σ σ' μ μ' : pxS} {P : dP} {k p f g : Nat} {B B' : dB} {I : Option dB} {H : List dB}
/-- only the array 36 is another -/
def dG36 (μ μ' : pxS) : Prop := ∀ j, j ≠ (1, 36, 0) → μ' j = μ j
theorem dM_36 (h : dM μ P B) (hG : dG36 μ μ') : dM μ' P B := ⟨by rw [hG _ (by simp)]; exact h.s, dMP_e (fun a ha => hG _ (by simp; omega)) h.P⟩
theorem dG36_up {q : Nat} {v : Int32} (hG : dG36 μ μ') : dG36 μ (px_up μ' (1, 36, 0) q v) := fun j hj => by
  rw [← hG j hj]
  funext x
  simp [px_up, hj]
theorem dsteps (h : dM μ P B) (hD : dWD P) (hn : P.1 ≤ 12) (hg : g < P.1) : dw (F_Mo_laysSteps μ (dn g)) (fun τ => dG36 μ τ ∧ ∀ r, r < P.1 → τ (1, 36, 0) r = dDs P g r P.1) := by
  unfold F_Mo_laysSteps
  rw [dw_b1]
  -- by one link
  refine dw_mono (P := fun τ => dG36 μ τ ∧ ∀ r, r < P.1 → τ (1, 36, 0) r = dDs P g r 1) ?_ fun τ ⟨f1, g1⟩ => ?_
  · refine dw_up P.1 (by unfold px_N; omega) (fun t s => s.1 = dn t ∧ dG36 μ s.2 ∧ ∀ r, r < t → s.2 (1, 36, 0) r = dDs P g r 1) (fun t s ht hI => ?_) (fun s hI => ?_) (Nat.zero_le _) ⟨rfl, fun _ _ => rfl, fun r hr => absurd hr (by omega)⟩
    · obtain ⟨v, τ⟩ := s
      obtain ⟨rfl, f1, g1⟩ := hI
      dsimp only at f1 g1
      have hτ := dM_36 h f1
      show dw (Mo_laysSteps_n2 τ (dn g) (dn t)) _
      unfold Mo_laysSteps_n2
      refine dw_v (dM_n hτ) ?_
      rw [if_neg (by rw [dn_le (by omega) (by omega)]; omega)]
      refine dw_gi (by omega) (by omega) ?_
      rw [dn_nat (by omega), hτ.P.dir t ht]
      have e1 : dHop P g 0 t = db (P.2.2.2 8 t) g := by
        cases e : db (P.2.2.2 8 t) g with
        | true => exact dHop_i.mpr ⟨g, hg, e, by show decide (g = g) = true; simp⟩
        | false =>
          cases e2 : dHop P g 0 t with
          | false => rfl
          | true =>
            obtain ⟨o, _, o2, o3⟩ := dHop_i.mp e2
            have : o = g := by
              have : decide (o = g) = true := o3
              simpa using this
            rw [this, e] at o2; exact absurd o2 (by decide)
      have ed : dDs P g t 1 = if db (P.2.2.2 8 t) g = true then 1 else -1 := by
        show (if (-1 : Int32) = -1 then (if dHop P g 0 t = true then dn (0 + 1) else -1) else -1) = _
        rw [if_pos rfl, e1]
        rfl
      have fin : ∀ {QQ : pxS → Prop} (v : Int32), v = dDs P g t 1 → dw (px_gd (dn t) 12 (px_l (px_up τ (1, 36, 0) t v) fun σ6 => (some (.inl (dn t + 1, σ6)) : Option ((Int32 × pxS) ⊕ pxS)))) (dR (fun s => s.1 = dn (t + 1) ∧ dG36 μ s.2 ∧ ∀ r, r < t + 1 → s.2 (1, 36, 0) r = dDs P g r 1) QQ) := fun v hv => by
        refine dw_gi (by omega) (by omega) ?_
        simp only [dw_l, dw_some, dR_l]
        refine ⟨dn_suc t, dG36_up f1, fun r hr => ?_⟩
        rw [px_up_du]
        by_cases e : r = t
        · subst e; rw [du_eq, hv]
        · rw [du_ne e]; exact g1 r (by omega)
      by_cases c : db (P.2.2.2 8 t) g = true
      · rw [if_pos ((db_sh1 (by omega)).mpr c)]
        exact fin 1 (by rw [ed, if_pos c])
      · rw [if_neg (fun z => c ((db_sh1 (by omega)).mp z))]
        exact fin (-1) (by rw [ed, if_neg c])
    · obtain ⟨v, τ⟩ := s
      obtain ⟨rfl, f1, g1⟩ := hI
      show dw (Mo_laysSteps_n2 τ (dn g) (dn P.1)) _
      unfold Mo_laysSteps_n2
      refine dw_v (dM_n (dM_36 h f1)) ?_
      rw [if_pos (by rw [dn_le (by omega) (by omega)]; omega)]
      simp only [dw_some, dR_r]
      exact ⟨f1, g1⟩
  · rw [dw_b1]
    refine dw_mono (P := fun τ => dG36 μ τ ∧ ∀ r, r < P.1 → τ (1, 36, 0) r = dDs P g r P.1) ?_ fun τ h' => dw_some.mpr h'
    -- the rounds
    refine dw_up (P.1 - 1) (by unfold px_N; omega) (fun m s => s.1 = dn (m + 2) ∧ dG36 μ s.2 ∧ ∀ r, r < P.1 → s.2 (1, 36, 0) r = dDs P g r (m + 1)) (fun m s hm hI => ?_) (fun s hI => ?_) (Nat.zero_le _) ⟨rfl, f1, g1⟩
    · obtain ⟨v, τ⟩ := s
      obtain ⟨rfl, f1, g1⟩ := hI
      dsimp only at f1 g1
      show dw (Mo_laysSteps_n43 τ (dn g) (dn (m + 2))) _
      unfold Mo_laysSteps_n43
      refine dw_v (dM_n (dM_36 h f1)) ?_
      rw [if_neg (by rw [dn_lt (by omega) (by omega)]; omega), dw_b1]
      refine dw_mono (P := fun τ' => dG36 μ τ' ∧ ∀ r, r < P.1 → τ' (1, 36, 0) r = dDs P g r (m + 2)) ?_ fun τ' h' => ?_
      · -- the rails of a round
        refine dw_up P.1 (by unfold px_N; omega) (fun t s => s.1 = dn t ∧ dG36 μ s.2 ∧ (∀ r, r < t → s.2 (1, 36, 0) r = dDs P g r (m + 2)) ∧ ∀ r, r < P.1 → t ≤ r → s.2 (1, 36, 0) r = dDs P g r (m + 1)) (fun t s ht hI => ?_) (fun s hI => ?_) (Nat.zero_le _) ⟨rfl, f1, fun r hr => absurd hr (by omega), fun r hr _ => g1 r hr⟩
        · obtain ⟨v, ρ⟩ := s
          obtain ⟨rfl, f2, g2, g3⟩ := hI
          dsimp only at f2 g2 g3
          show dw (Mo_laysSteps_n53 ρ (dn g) (dn (m + 2)) (dn t)) _
          unfold Mo_laysSteps_n53
          refine dw_v (dM_n (dM_36 h f2)) ?_
          rw [if_neg (by rw [dn_le (by omega) (by omega)]; omega), dw_b1]
          refine dw_mono (P := fun ρ' => dG36 μ ρ' ∧ ρ' (1, 36, 0) t = dDs P g t (m + 2) ∧ ∀ r, r ≠ t → ρ' (1, 36, 0) r = ρ (1, 36, 0) r) ?_ fun ρ' ⟨k1, k2, k3⟩ => ?_
          · have ho : ∀ o, o < P.1 → (ρ (1, 36, 0) o = dn (m + 1) ↔ dDs P g o (m + 1) = dn (m + 1)) := fun o ho => by
              by_cases e : o < t
              · rw [g2 o e]
                constructor
                · intro z
                  obtain ⟨z1, z2, z3, z4⟩ := ((dDs_n (m + 2) (by omega)).2 (m + 1) (by omega)).mp z
                  exact ((dDs_n (m + 1) (by omega)).2 (m + 1) (by omega)).mpr ⟨z1, Nat.le_refl _, z3, z4⟩
                · intro z2
                  obtain ⟨y1, y2, y3, y4⟩ := ((dDs_n (m + 1) (by omega)).2 (m + 1) (by omega)).mp z2
                  exact ((dDs_n (m + 2) (by omega)).2 (m + 1) (by omega)).mpr ⟨y1, by omega, y3, y4⟩
              · rw [g3 o ho (by omega)]
            have e2 : dDs P g t (m + 2) = if dDs P g t (m + 1) = -1 then (if dHop P g (m + 1) t = true then dn (m + 2) else -1) else dDs P g t (m + 1) := rfl
            have hq := fun c => dDs_q (P := P) (g := g) (r := t) (m := m + 1) (by omega) (by omega) c
            refine dw_up P.1 (by unfold px_N; omega) (fun u s => s.1 = dn u ∧ dG36 μ s.2 ∧ (∀ r, r ≠ t → s.2 (1, 36, 0) r = ρ (1, 36, 0) r) ∧ ((s.2 (1, 36, 0) t = -1 ∧ dDs P g t (m + 1) = -1 ∧ ∀ o, o < u → ¬ (o ≠ g ∧ db (P.2.2.2 8 t) o = true ∧ dDs P g o (m + 1) = dn (m + 1))) ∨ (s.2 (1, 36, 0) t ≠ -1 ∧ s.2 (1, 36, 0) t = dDs P g t (m + 2)))) (fun u s hu hI => ?_) (fun s hI => ?_) (Nat.zero_le _) ⟨rfl, f2, fun _ _ => rfl, ?_⟩
            · obtain ⟨v, θ⟩ := s
              obtain ⟨rfl, k1, k2, k3⟩ := hI
              dsimp only at k1 k2 k3
              have hθ := dM_36 h k1
              show dw (Mo_laysSteps_n64 θ (dn g) (dn (m + 2)) (dn t) (dn u)) _
              unfold Mo_laysSteps_n64 Mo_laysSteps_n124
              refine dw_v (dM_n hθ) ?_
              rw [if_neg (by rw [dn_le (by omega) (by omega)]; omega)]
              refine dw_gi (by omega) (by omega) ?_
              rw [dn_nat (show t < 2147483648 by omega)]
              rcases k3 with ⟨k3, k4, k5⟩ | ⟨k3, k4⟩
              · rw [if_pos k3]
                have next : ∀ {QQ : pxS → Prop}, ¬ (u ≠ g ∧ db (P.2.2.2 8 t) u = true ∧ dDs P g u (m + 1) = dn (m + 1)) → dw (some (.inl (dn u + 1, θ)) : Option ((Int32 × pxS) ⊕ pxS)) (dR (fun s => s.1 = dn (u + 1) ∧ dG36 μ s.2 ∧ (∀ r, r ≠ t → s.2 (1, 36, 0) r = ρ (1, 36, 0) r) ∧ ((s.2 (1, 36, 0) t = -1 ∧ dDs P g t (m + 1) = -1 ∧ ∀ o, o < u + 1 → ¬ (o ≠ g ∧ db (P.2.2.2 8 t) o = true ∧ dDs P g o (m + 1) = dn (m + 1))) ∨ (s.2 (1, 36, 0) t ≠ -1 ∧ s.2 (1, 36, 0) t = dDs P g t (m + 2)))) QQ) := fun z => by
                  simp only [dw_some, dR_l]
                  refine ⟨dn_suc u, k1, k2, Or.inl ⟨k3, k4, fun o ho => ?_⟩⟩
                  by_cases e : o = u
                  · rw [e]; exact z
                  · exact k5 o (by omega)
                by_cases c1 : dn u = dn g
                · rw [if_pos c1]
                  rw [dn_inj (by omega) (by omega)] at c1
                  exact next fun z => z.1 c1
                · rw [if_neg c1]
                  rw [dn_inj (by omega) (by omega)] at c1
                  refine dw_gi (by omega) (by omega) ?_
                  rw [hθ.P.dir t ht]
                  by_cases c2 : db (P.2.2.2 8 t) u = true
                  · rw [if_pos ((db_sh1 (by omega)).mpr c2)]
                    refine dw_gi (by omega) (by omega) ?_
                    rw [dn_nat (show u < 2147483648 by omega), show dn (m + 2) - 1 = dn (m + 1) from dn_sub (i := m + 2) (j := 1) (by omega)]
                    by_cases c3 : θ (1, 36, 0) u = dn (m + 1)
                    · rw [if_pos c3]
                      refine dw_gi (by omega) (by omega) ?_
                      simp only [dw_l, dw_some, dR_l]
                      have hut : u ≠ t := fun e => by
                        rw [e, k3] at c3
                        exact dn_m1 (by omega) c3.symm
                      have c4 : dDs P g u (m + 1) = dn (m + 1) := (ho u hu).mp (by rw [← k2 u hut]; exact c3)
                      refine ⟨dn_suc u, dG36_up k1, fun r hr => ?_, Or.inr ?_⟩
                      · rw [px_up_du, du_ne hr]; exact k2 r hr
                      · rw [px_up_du, du_eq]
                        refine ⟨dn_m1 (by omega), ?_⟩
                        rw [e2, if_pos k4, if_pos ((hq k4).mpr ⟨u, hu, c1, c2, c4⟩)]
                    · rw [if_neg c3]
                      refine next fun ⟨z1, z2, z3⟩ => c3 ?_
                      by_cases hut : u = t
                      · rw [hut, k4] at z3
                        exact absurd z3.symm (dn_m1 (by omega))
                      · rw [k2 u hut]; exact (ho u hu).mpr z3
                  · rw [if_neg (fun z => c2 ((db_sh1 (by omega)).mp z))]
                    exact next fun z => c2 z.2.1
              · rw [if_neg k3]
                simp only [dw_some, dR_r]
                exact ⟨k1, k4, k2⟩
            · obtain ⟨v, θ⟩ := s
              obtain ⟨rfl, k1, k2, k3⟩ := hI
              dsimp only at k1 k2 k3
              show dw (Mo_laysSteps_n64 θ (dn g) (dn (m + 2)) (dn t) (dn P.1)) _
              unfold Mo_laysSteps_n64
              refine dw_v (dM_n (dM_36 h k1)) ?_
              rw [if_pos (by rw [dn_le (by omega) (by omega)]; omega)]
              simp only [dw_some, dR_r]
              refine ⟨k1, ?_, k2⟩
              rcases k3 with ⟨k3, k4, k5⟩ | ⟨k3, k4⟩
              · rw [k3, e2, if_pos k4, if_neg fun z => ?_]
                obtain ⟨o, o1, o2, o3, o4⟩ := (hq k4).mp z
                exact k5 o o1 ⟨o2, o3, o4⟩
              · exact k4
            · have := g3 t ht (Nat.le_refl _)
              by_cases c : dDs P g t (m + 1) = -1
              · exact Or.inl ⟨this.trans c, c, fun o ho => absurd ho (by omega)⟩
              · exact Or.inr ⟨fun z => c (this.symm.trans z), by rw [e2, if_neg c]; exact this⟩
          · simp only [dw_some, dR_l]
            refine ⟨dn_suc t, k1, fun r hr => ?_, fun r hr hrt => ?_⟩
            · by_cases e : r = t
              · rw [e]; exact k2
              · rw [k3 r e]; exact g2 r (by omega)
            · rw [k3 r (by omega)]; exact g3 r hr (by omega)
        · obtain ⟨v, ρ⟩ := s
          obtain ⟨rfl, f2, g2, g3⟩ := hI
          show dw (Mo_laysSteps_n53 ρ (dn g) (dn (m + 2)) (dn P.1)) _
          unfold Mo_laysSteps_n53
          refine dw_v (dM_n (dM_36 h f2)) ?_
          rw [if_pos (by rw [dn_le (by omega) (by omega)]; omega)]
          simp only [dw_some, dR_r]
          exact ⟨f2, g2⟩
      · simp only [dw_some, dR_l]
        exact ⟨dn_suc _, h'⟩
    · obtain ⟨v, τ⟩ := s
      obtain ⟨rfl, f1, g1⟩ := hI
      dsimp only at f1 g1
      show dw (Mo_laysSteps_n43 τ (dn g) (dn (P.1 - 1 + 2))) _
      unfold Mo_laysSteps_n43
      refine dw_v (dM_n (dM_36 h f1)) ?_
      rw [if_pos (by rw [dn_lt (by omega) (by omega)]; omega)]
      simp only [dw_some, dR_r]
      exact ⟨f1, fun r hr => by rw [g1 r hr, show P.1 - 1 + 1 = P.1 by omega]⟩
/-- the reference: the ring, laid -/
theorem dlays (h : dM μ P B) (hD : dWD P) (hC : dWC P) (hn : P.1 ≤ 12) : dw (F_Mo_laysRing μ) (fun τ => dGs μ τ ∧ τ (1, 28, 0) = μ (1, 28, 0) ∧ ((dIn P P.1 = 0 ∧ τ (0, 0, 0) 38 = 0) ∨ (∃ g R, dLe (db (dIn P P.1)) g ∧ dRl' P g R ∧ τ (0, 0, 0) 38 = dn R ∧ ∀ k, k < R → τ (1, 37, 0) k = dn (dWi P g R k)))) := by
  unfold F_Mo_laysRing
  rw [dw_l]
  have h1 : dM (px_up μ (0, 0, 0) 38 0) P B := dM_0 h
  have f1 : dGs μ (px_up μ (0, 0, 0) 38 0) := dGs_0 (Or.inr (Or.inl rfl))
  have f2 : px_up μ (0, 0, 0) 38 0 (1, 28, 0) = μ (1, 28, 0) := up_o (by simp)
  have f3 : px_up μ (0, 0, 0) 38 0 (0, 0, 0) 38 = 0 := by rw [up_0, if_pos rfl]
  generalize px_up μ (0, 0, 0) 38 0 = μ1 at h1 f1 f2 f3
  refine dw_v (dM_in h1 hn) ?_
  by_cases c : dIn P P.1 = 0
  · rw [if_pos c, dw_some]
    exact ⟨f1, f2, Or.inl ⟨c, f3⟩⟩
  rw [if_neg c]
  -- the first rail of a ring
  have hex : ∃ o, o < P.1 ∧ db (dIn P P.1) o = true := by
    refine Classical.byContradiction fun z => c ?_
    apply db_ext
    intro i hi
    rw [db_zero]
    cases e : db (dIn P P.1) i with
    | false => rfl
    | true =>
      refine absurd ⟨i, ?_, e⟩ z
      rw [db_in (by omega)] at e
      simp at e
      exact e.1
  obtain ⟨g, hg, hle⟩ := dLe_ex hex
  have hgg : db (P.2.2.2 9 g) g = true := by
    have := hle.1
    rw [db_in (by omega)] at this
    simp at this
    exact this.2
  obtain ⟨L, hL⟩ := (hC g hg g hg).mp hgg
  obtain ⟨R, hR⟩ := dRl_ex hg hL
  have R1 := hR.R1
  have Rn := hR.Rn
  rw [dw_b1]
  refine dw_mono (P := fun r => r = dn g) ?_ fun r hr => ?_
  · refine dw_up g (by unfold px_N; omega) (fun t s => s = dn t) (fun t s ht hI => ?_) (fun s hI => ?_) (Nat.zero_le _) rfl
    · subst hI
      show dw (Mo_laysRing_n17 μ1 _ (dn t)) _
      unfold Mo_laysRing_n17
      rw [if_pos (by rw [db_sh0 (by omega)]; exact hle.2 t ht)]
      simp only [dw_some, dR_l]
      exact dn_suc t
    · subst hI
      show dw (Mo_laysRing_n17 μ1 _ (dn g)) _
      unfold Mo_laysRing_n17
      rw [if_neg (by rw [db_sh0 (by omega), hle.1]; decide)]
      simp only [dw_some, dR_r]
  · subst hr
    rw [dw_b1]
    refine dw_mono (dsteps h1 hD hn hg) fun μ2 ⟨k1, k2⟩ => dw_gi (by omega) (by omega) ?_
    rw [dn_nat (show g < 2147483648 by omega), dw_l, dw_l]
    have eR : μ2 (1, 36, 0) g = dn R := by
      rw [k2 g hg]
      exact ((dDs_n P.1 (by omega)).2 R (by omega)).mpr ⟨R1, Rn, hR.h, hR.l⟩
    rw [eR, dw_b1]
    -- the places of the ring
    refine dw_mono (P := fun τ => (∀ k, k < R → τ (1, 37, 0) k = dn (dWi P g R k)) ∧ τ (0, 0, 0) 38 = dn R ∧ (∀ q, q ≠ 38 → τ (0, 0, 0) q = μ2 (0, 0, 0) q) ∧ ∀ j, j ≠ (0, 0, 0) → j ≠ (1, 37, 0) → τ j = μ2 j) ?_ fun τ ⟨q1, q2, q3, q4⟩ => ?_
    · refine dw_up (R - 1) (by unfold px_N; omega) (fun t s => s.1 = dn (t + 1) ∧ (∀ k, k < t + 1 → s.2 (1, 37, 0) k = dn (dWi P g R k)) ∧ s.2 (0, 0, 0) 38 = dn R ∧ (∀ q, q ≠ 38 → s.2 (0, 0, 0) q = μ2 (0, 0, 0) q) ∧ ∀ j, j ≠ (0, 0, 0) → j ≠ (1, 37, 0) → s.2 j = μ2 j) (fun t s ht hI => ?_) (fun s hI => ?_) (Nat.zero_le _) ⟨rfl, fun k hk => ?_, ?_, fun q hq => ?_, fun j h0 h37 => ?_⟩
      · obtain ⟨v, τ⟩ := s
        obtain ⟨rfl, q1, q2, q3, q4⟩ := hI
        dsimp only at q1 q2 q3 q4
        have hW := dWi_k hR t (by omega)
        have hwi := hW.hi
        have e28 : τ (1, 26, 0) (dWi P g R t) = P.2.2.2 8 (dWi P g R t) := by
          rw [q4 _ (by simp) (by simp), k1 _ (by simp)]
          exact h1.P.dir _ hwi
        have e36 : ∀ o, o < P.1 → τ (1, 36, 0) o = dDs P g o P.1 := fun o ho => by
          rw [q4 _ (by simp) (by simp)]; exact k2 o ho
        show dw (Mo_laysRing_n55 τ (dn g) (dn (t + 1))) _
        unfold Mo_laysRing_n55
        rw [q2, if_neg (by rw [dn_le (by omega) (by omega)]; omega), dw_b1]
        have hcc : ∀ o, o < P.1 → ((o ≠ g ∧ db (P.2.2.2 8 (dWi P g R t)) o = true ∧ dDs P g o P.1 = dn (R - (t + 1))) ↔ (db (P.2.2.2 8 (dWi P g R t)) o && dRc P g (R - (t + 1)) o) = true) := fun o ho => by
          constructor
          · intro ⟨z1, z2, z3⟩
            obtain ⟨_, _, y, _⟩ := ((dDs_n P.1 (by omega)).2 _ (by omega)).mp z3
            rw [Bool.and_eq_true]
            refine ⟨z2, ?_⟩
            rw [show R - (t + 1) = (R - (t + 1) - 1) + 1 by omega, dRc_h ho z1]
            exact y
          · intro z
            obtain ⟨y1, y2⟩ := dWk_s hW (by omega) ho z
            rw [Bool.and_eq_true] at z
            exact ⟨y2, z.1, ((dDs_n P.1 (by omega)).2 _ (by omega)).mpr ⟨by omega, by omega, y1.h, y1.l⟩⟩
        obtain ⟨e1, e2⟩ := dLst_ex (c := fun o => db (P.2.2.2 8 (dWi P g R t)) o && dRc P g (R - (t + 1)) o) (dWk_n hW (show t + 1 < R by omega))
        have ew : dLst (fun o => db (P.2.2.2 8 (dWi P g R t)) o && dRc P g (R - (t + 1)) o) P.1 = dWi P g R (t + 1) := rfl
        rw [ew] at e1 e2
        refine dw_mono (P := fun r => r = dn (dWi P g R (t + 1))) ?_ fun r hr => ?_
        · refine dw_up (dWi P g R (t + 1)) (by unfold px_N; omega) (fun u s => s = dn u) (fun u s hu hI => ?_) (fun s hI => ?_) (Nat.zero_le _) rfl
          · subst hI
            have hno := e2.2 u hu
            have hno2 : ¬ (u ≠ g ∧ db (P.2.2.2 8 (dWi P g R t)) u = true ∧ dDs P g u P.1 = dn (R - (t + 1))) := fun z => by
              have := (hcc u (by omega)).mp z
              exact absurd (this.symm.trans hno) (by decide)
            show dw (Mo_laysRing_n66 τ (dn g) (dn (t + 1)) (dn u)) _
            unfold Mo_laysRing_n66 Mo_laysRing_n109
            have next : ∀ {QQ : Int32 → Prop}, dw (some (.inl (dn u + 1)) : Option (Int32 ⊕ Int32)) (dR (fun s => s = dn (u + 1)) QQ) := by
              intro QQ
              simp only [dw_some, dR_l]
              exact dn_suc u
            by_cases c1 : dn u = dn g
            · rw [if_pos c1]; exact next
            rw [if_neg c1]
            rw [dn_inj (by omega) (by omega)] at c1
            rw [show dn (t + 1) - 1 = dn t from dn_sub (i := t + 1) (j := 1) (by omega)]
            refine dw_gi (by omega) (by omega) ?_
            rw [dn_nat (show t < 2147483648 by omega), q1 t (by omega)]
            refine dw_gi (by omega) (by omega) ?_
            rw [dn_nat (show dWi P g R t < 2147483648 by omega), e28]
            by_cases c2 : db (P.2.2.2 8 (dWi P g R t)) u = true
            · rw [if_neg (fun z => by rw [db_sh0 (by omega), c2] at z; exact absurd z (by decide))]
              refine dw_gi (by omega) (by omega) ?_
              rw [dn_nat (show u < 2147483648 by omega), e36 u (by omega), q2, dn_sub (show t + 1 ≤ R by omega), if_neg (fun z => hno2 ⟨c1, c2, z⟩)]
              exact next
            · rw [if_pos ((db_sh0 (by omega)).mpr (by simpa using c2))]; exact next
          · subst hI
            obtain ⟨y1, y2, y3⟩ := (hcc _ e1).mpr e2.1
            show dw (Mo_laysRing_n66 τ (dn g) (dn (t + 1)) (dn (dWi P g R (t + 1)))) _
            unfold Mo_laysRing_n66
            rw [if_neg (by rw [dn_inj (by omega) (by omega)]; exact y1), show dn (t + 1) - 1 = dn t from dn_sub (i := t + 1) (j := 1) (by omega)]
            refine dw_gi (by omega) (by omega) ?_
            rw [dn_nat (show t < 2147483648 by omega), q1 t (by omega)]
            refine dw_gi (by omega) (by omega) ?_
            rw [dn_nat (show dWi P g R t < 2147483648 by omega), e28, if_neg (fun z => by rw [db_sh0 (by omega), y2] at z; exact absurd z (by decide))]
            refine dw_gi (by omega) (by omega) ?_
            rw [dn_nat (show dWi P g R (t + 1) < 2147483648 by omega), e36 _ e1, q2, dn_sub (show t + 1 ≤ R by omega), if_pos y3]
            simp only [dw_some, dR_r]
        · subst hr
          refine dw_gi (by omega) (by omega) ?_
          rw [dn_nat (show t + 1 < 2147483648 by omega)]
          simp only [dw_l, dw_some, dR_l]
          have e0 : ∀ v, px_up τ (1, 37, 0) (t + 1) v (0, 0, 0) = τ (0, 0, 0) := fun v => by funext x; simp [px_up]
          refine ⟨dn_suc _, fun k hk => ?_, by rw [e0]; exact q2, fun q hq => by rw [e0]; exact q3 q hq, fun j h0 h37 => ?_⟩
          · rw [px_up_du]
            by_cases e : k = t + 1
            · subst e; rw [du_eq]
            · rw [du_ne e]; exact q1 k (by omega)
          · rw [← q4 j h0 h37]
            funext x
            simp [px_up, h37]
      · obtain ⟨v, τ⟩ := s
        obtain ⟨rfl, q1, q2, q3, q4⟩ := hI
        dsimp only at q1 q2 q3 q4
        show dw (Mo_laysRing_n55 τ (dn g) (dn (R - 1 + 1))) _
        unfold Mo_laysRing_n55
        rw [q2, if_pos (by rw [dn_le (by omega) (by omega)]; omega)]
        simp only [dw_some, dR_r]
        exact ⟨fun k hk => q1 k (by omega), q2, q3, q4⟩
      · have : k = 0 := by omega
        subst this
        show px_up (px_up μ2 (0, 0, 0) 38 (dn R)) (1, 37, 0) 0 (dn g) (1, 37, 0) 0 = _
        rw [px_up_du, du_eq]; rfl
      · simp [px_up]
      · simp [px_up, hq]
      · funext x
        simp [px_up, h0, h37]
    · rw [dw_some]
      refine ⟨dGs_trans f1 ⟨fun a h28 h29 h34 h35 h36 h37 h39 => by rw [q4 _ (by simp) (by simp [h37]), k1 _ (by simp [h36])], fun q h0 h38 h40 => by rw [q3 q h38, k1 _ (by simp)]⟩, ?_, Or.inr ⟨g, R, hle, hR, q2, q1⟩⟩
      rw [q4 _ (by simp) (by simp), k1 _ (by simp), f2]
theorem dG_ring (h : dI σ μ P p B I H f) (hD : dWD P) (hC : dWC P) (v : Int32) : dGt σ P p B I H f (F_PR_ring σ v) (F_Mo_ring μ v) := by
  unfold F_PR_ring F_Mo_ring
  have h := dI_th (v := 0) h
  rw [px_l]
  generalize px_up μ (0, 0, 0) 0 0 = μ at h
  have hn := h.W.wp.n
  have hp := h.pp
  rcases dn_cases v with c | ⟨q, hq, rfl⟩
  · rw [if_neg (Int32.not_le.mpr c), if_neg (Int32.not_le.mpr c)]; exact dGt_2 rfl h
  have h0 : (0 : Int32) ≤ dn q := Int32.not_lt.mp (dn_nn hq)
  rw [if_pos h0, if_pos h0, h.cp, dGt]
  obtain ⟨τ, eτ, t1, t2, t3⟩ := dlays h.M hD hC hn
  rw [eτ, px_b1_s]
  have hI : dI σ τ P p B I H f := dI_try h (dF_refl 2 σ) t1 fun x _ => by rw [t2]
  unfold F_Ri_railAt
  rw [dw_b1]
  refine dw_v (dC_in h.C.P hp hn) ?_
  rcases t3 with ⟨z1, z2⟩ | ⟨g, R, z1, z2, z3, z4⟩
  · rw [if_pos z1, dw_some, dw_some, z2, if_pos h0]
    exact dw_some.mpr ⟨rfl, hI⟩
  · have hg := z2.hg
    have Rn := z2.Rn
    rw [if_neg (fun z => by
      have := z1.1
      rw [z, db_zero] at this; exact absurd this (by decide)), dw_b1]
    refine dw_mono (dlow (x := dIn P P.1) ⟨g, by omega, z1.1⟩) fun r ⟨m, m1, m2, m3⟩ => ?_
    have : m = g := dLe_1 m3 z1
    subst this
    rw [m2]
    refine dw_v (dlinks h.C.P hD hp hn z2) ?_
    rw [dw_b1]
    refine dw_mono (dring h.C.P hD hp hn z2 hq) fun e he => ?_
    have fin : ∀ (a : Int32), a = (if q < R then dn (dWi P m R q) else -2) → dw (some a) fun a => dw (some a) fun a => dw (if τ (0, 0, 0) 38 ≤ dn q then some (-2, τ) else px_gd (dn q) 12 (some (τ (1, 37, 0) (dn q).toNatClampNeg, τ))) fun r => a = r.1 ∧ dI σ r.2 P p B I H f := fun a ha => by
      rw [dw_some, dw_some, z3]
      by_cases c : q < R
      · rw [if_pos c] at ha
        rw [if_neg (by rw [dn_le (by omega) (by omega)]; omega)]
        refine dw_gi (by omega) (by omega) ?_
        rw [dn_nat (by omega), z4 q c, ha]
        exact dw_some.mpr ⟨rfl, hI⟩
      · rw [if_neg c] at ha
        rw [if_pos (by rw [dn_le (by omega) (by omega)]; omega), ha]
        exact dw_some.mpr ⟨rfl, hI⟩
    by_cases c : e.1 = 0
    · rw [if_pos c] at he ⊢
      exact fin _ he
    · rw [if_neg c] at he ⊢
      exact fin _ he
end G5
end
