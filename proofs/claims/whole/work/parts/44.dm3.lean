section
/-! how long a rail is low, counted ahead of the draws -/
def dB.s7 (B : dB) (h : Nat → Int32) : dB := (fun j q => if q = 7 then h j else B.1 j q, B.2.1, B.2.2.1, B.2.2.2.1, B.2.2.2.2.1, B.2.2.2.2.2.1, B.2.2.2.2.2.2.1, B.2.2.2.2.2.2.2.1, B.2.2.2.2.2.2.2.2)
section D15
variable {P : dP} {B : dB} {h : Nat → Int32}
theorem s7_ne {j q : Nat} (hq : q ≠ 7) : (B.s7 h).1 j q = B.1 j q := if_neg hq
theorem s7_eq {j : Nat} : (B.s7 h).1 j 7 = h j := by
  show (if 7 = 7 then h j else B.1 j 7) = h j
  rw [if_pos rfl]
theorem s7_st {i q : Nat} {v : Int32} (hq : q ≠ 7) : (B.s7 h).st i q v = (B.st i q v).s7 h := by
  have : (fun j k => if j = i ∧ k = q then v else (B.s7 h).1 j k) = fun j k => if k = 7 then h j else (B.st i q v).1 j k := by
    funext j k
    by_cases c : k = 7
    · subst c
      rw [if_neg (by omega), if_pos rfl, s7_eq]
    · rw [s7_ne c, if_neg c]; rfl
  show (_, B.2.1, B.2.2.1, B.2.2.2.1, B.2.2.2.2.1, B.2.2.2.2.2.1, B.2.2.2.2.2.2.1, B.2.2.2.2.2.2.2.1, B.2.2.2.2.2.2.2.2) = ((_, B.2.1, B.2.2.1, B.2.2.2.1, B.2.2.2.2.1, B.2.2.2.2.2.1, B.2.2.2.2.2.2.1, B.2.2.2.2.2.2.2.1, B.2.2.2.2.2.2.2.2) : dB)
  rw [this]
theorem s7_7 {t : Nat} {v : Int32} : (B.s7 h).st t 7 v = B.s7 (fun j => if j = t then v else h j) := by
  have : (fun j k => if j = t ∧ k = 7 then v else (B.s7 h).1 j k) = fun j k => if k = 7 then (if j = t then v else h j) else B.1 j k := by
    funext j k
    by_cases c : k = 7
    · subst c
      rw [if_pos rfl, s7_eq]
      by_cases e : j = t
      · rw [if_pos ⟨e, rfl⟩, if_pos e]
      · rw [if_neg (fun z => e z.1), if_neg e]
    · rw [s7_ne c, if_neg c, if_neg (fun z => c z.2)]
  show (_, B.2.1, B.2.2.1, B.2.2.2.1, B.2.2.2.2.1, B.2.2.2.2.2.1, B.2.2.2.2.2.2.1, B.2.2.2.2.2.2.2.1, B.2.2.2.2.2.2.2.2) = ((_, B.2.1, B.2.2.1, B.2.2.2.1, B.2.2.2.2.1, B.2.2.2.2.2.1, B.2.2.2.2.2.2.1, B.2.2.2.2.2.2.2.1, B.2.2.2.2.2.2.2.2) : dB)
  rw [this]
theorem st_s7 {t : Nat} {v : Int32} : (B.st t 7 v).s7 h = B.s7 h := by
  have : (fun j k => if k = 7 then h j else (B.st t 7 v).1 j k) = fun j k => if k = 7 then h j else B.1 j k := by
    funext j k
    by_cases c : k = 7
    · rw [if_pos c, if_pos c]
    · rw [if_neg c, if_neg c, dB.st_ne (Or.inr c)]
  show (_, B.2.1, B.2.2.1, B.2.2.2.1, B.2.2.2.2.1, B.2.2.2.2.2.1, B.2.2.2.2.2.2.1, B.2.2.2.2.2.2.2.1, B.2.2.2.2.2.2.2.2) = ((_, B.2.1, B.2.2.1, B.2.2.2.1, B.2.2.2.2.1, B.2.2.2.2.2.1, B.2.2.2.2.2.2.1, B.2.2.2.2.2.2.2.1, B.2.2.2.2.2.2.2.2) : dB)
  rw [this]
theorem s7_id (e : ∀ j, B.1 j 7 = h j) : B.s7 h = B := by
  have : (fun j k => if k = 7 then h j else B.1 j k) = B.1 := by
    funext j k
    by_cases c : k = 7
    · rw [if_pos c, c, e]
    · rw [if_neg c]
  show (_, B.2.1, B.2.2.1, B.2.2.2.1, B.2.2.2.2.1, B.2.2.2.2.2.1, B.2.2.2.2.2.2.1, B.2.2.2.2.2.2.2.1, B.2.2.2.2.2.2.2.2) = B
  rw [this]
theorem s7_wr {r w : Int32} : (B.s7 h).wr r w = (B.wr r w).s7 h := rfl
theorem s7_ite {c : Prop} [Decidable c] {X Y : dB} : (if c then X else Y).s7 h = if c then X.s7 h else Y.s7 h := by
  by_cases z : c
  · rw [if_pos z, if_pos z]
  · rw [if_neg z, if_neg z]
theorem s7_off {t : Nat} : dOff P (B.s7 h) t = (dOff P B t).s7 h := by
  unfold dOff
  rw [s7_ne (by omega), s7_ne (by omega), s7_st (by omega), s7_wr, s7_st (by omega), s7_ite, s7_ite]
  rfl
theorem s7_va {t : Nat} : dVa P (B.s7 h) t = (dVa P B t).s7 h := by
  unfold dVa
  have eu : dUp P (B.s7 h) t = dUp P B t := rfl
  rw [eu, s7_ne (by omega), s7_ne (by omega), s7_ne (by omega)]
  simp only [s7_ite, s7_st (show 3 ≠ 7 by omega), s7_st (show 2 ≠ 7 by omega), s7_wr, s7_off]
theorem s7_vo {t : Nat} : dVo P (B.s7 h) t = (dVo P B t).s7 h := by
  unfold dVo
  rw [s7_va, s7_st (by omega), s7_ne (by omega), s7_ne (by omega)]
theorem dOff_ne {t j q : Nat} (hj : j ≠ t ∨ (q ≠ 2 ∧ q ≠ 11)) : (dOff P B t).1 j q = B.1 j q := by
  unfold dOff
  by_cases c : B.1 t 12 = 0
  · rw [if_pos c]; exact dB.st_ne (by omega)
  · rw [if_neg c]
    by_cases c2 : P.2.2.2 14 4 ≤ B.1 t 10
    · rw [if_pos c2]; exact dB.st_ne (by omega)
    · rw [if_neg c2]; exact (dB.st_ne (by omega)).trans (dB.st_ne (by omega))
theorem dVo_ne {t j q : Nat} (hj : j ≠ t ∨ (q ≠ 2 ∧ q ≠ 3 ∧ q ≠ 4 ∧ q ≠ 11)) : (dVo P B t).1 j q = B.1 j q := by
  unfold dVo
  rw [dB.st_ne (by omega)]
  unfold dVa
  by_cases c : B.1 t 2 = 2
  · rw [if_pos c]
    by_cases c1 : dUp P B t = P.2.2.2 2 t
    · rw [if_pos c1]; exact (dB.st_ne (by omega)).trans (dB.st_ne (by omega))
    · rw [if_neg c1]; exact dB.st_ne (by omega)
  · rw [if_neg c]
    by_cases c2 : B.1 t 2 = 3
    · rw [if_pos c2]
      by_cases c3 : B.1 t 6 = 0
      · rw [if_pos c3]; exact dB.st_ne (by omega)
      · rw [if_neg c3]; exact dB.st_ne (by omega)
    · rw [if_neg c2]
      by_cases c4 : B.1 t 2 = 4
      · rw [if_pos c4]
        by_cases c5 : dDn (B.1 t 3) (P.2.2.2 14 1) = 0
        · rw [if_pos c5]; exact (dOff_ne (by omega)).trans (dB.st_ne (by omega))
        · rw [if_neg c5]; exact dB.st_ne (by omega)
      · rw [if_neg c4]
def dMV2 (P : dP) (B : dB) : dB := dFo (dV2 P) P.1 B
def dlw (P : dP) (B : dB) (t : Nat) : Nat → Int32 := fun j => if j < t then dLw P (dFo (dVo P) t B) j else B.1 j 7
theorem dVo_7 {t j : Nat} : (dFo (dVo P) t B).1 j 7 = B.1 j 7 := by
  induction t with
  | zero => rfl
  | succ t ih => exact (dVo_ne (by omega)).trans ih
theorem dV2_fo : ∀ t, dFo (dV2 P) t B = (dFo (dVo P) t B).s7 (dlw P B t) := by
  intro t
  induction t with
  | zero => exact (s7_id fun j => by unfold dlw; rw [if_neg (by omega)]; rfl).symm
  | succ t ih =>
    show dV2 P (dFo (dV2 P) t B) t = (dVo P (dFo (dVo P) t B) t).s7 (dlw P B (t + 1))
    rw [ih]
    unfold dV2
    rw [s7_vo, s7_7]
    congr 1
    funext j
    unfold dlw
    have e1 : dFo (dVo P) (t + 1) B = dVo P (dFo (dVo P) t B) t := rfl
    rw [e1]
    by_cases c : j = t
    · subst c
      rw [if_pos rfl, if_pos (by omega)]
      refine dLw_c (s7_ne (by omega)) (s7_ne (by omega)) ?_
      rw [s7_eq]
      rw [if_neg (by omega), dVo_ne (Or.inr (by omega)), dVo_7]
    · rw [if_neg c]
      by_cases c2 : j < t
      · rw [if_pos c2, if_pos (by omega)]
        exact dLw_c (dVo_ne (Or.inl c)).symm (dVo_ne (Or.inl c)).symm (dVo_ne (Or.inl c)).symm
      · rw [if_neg c2, if_neg (by omega)]
/-! draws -/
theorem s7_dr {i : Nat} : dDr P (B.s7 h) i = (dDr P B i).s7 h := by
  have e1 : dD1 P (B.s7 h) i = (dD1 P B i).s7 h := by
    unfold dD1
    by_cases c : B.on i
    · rw [if_pos c, if_pos (show (B.s7 h).on i from c), s7_st (by omega), s7_ne (by omega), s7_ne (by omega), s7_ne (by omega)]
    · rw [if_neg c, if_neg (show ¬ (B.s7 h).on i from c)]
  have e2 : ∀ B : dB, dD2 P (B.s7 h) i = (dD2 P B i).s7 h := fun B => by
    unfold dD2
    rw [s7_st (by omega), s7_ne (by omega), s7_ne (by omega)]
  have e3 : ∀ B : dB, dD3 (B.s7 h) i = (dD3 B i).s7 h := fun B => by
    unfold dD3
    rw [s7_st (by omega), s7_ne (by omega), s7_ne (by omega)]
  have e4 : ∀ B : dB, dD4 P (B.s7 h) i = (dD4 P B i).s7 h := fun B => by
    unfold dD4
    rw [s7_ite, s7_st (by omega), s7_ne (by omega), s7_ne (by omega)]
    rfl
  unfold dDr
  rw [e1, e2, e3, e4]
theorem s7_fo {g : dB → Nat → dB} (hg : ∀ B t, g (B.s7 h) t = (g B t).s7 h) : ∀ t B, dFo g t (B.s7 h) = (dFo g t B).s7 h := by
  intro t
  induction t with
  | zero => intro B; rfl
  | succ t ih => intro B; show g (dFo g t (B.s7 h)) t = _; rw [ih, hg]; rfl
theorem s7_md : dMD P (B.s7 h) = (dMD P B).s7 h := by
  unfold dMD
  have e : (((B.s7 h).1, (B.s7 h).2.1, (B.s7 h).2.2.1, (B.s7 h).2.2.2.1, 0, (B.s7 h).2.2.2.2.2.1, (B.s7 h).2.2.2.2.2.2.1, (B.s7 h).2.2.2.2.2.2.2.1, (B.s7 h).2.2.2.2.2.2.2.2) : dB) = (dB.s7 (B.1, B.2.1, B.2.2.1, B.2.2.2.1, 0, B.2.2.2.2.2.1, B.2.2.2.2.2.2.1, B.2.2.2.2.2.2.2.1, B.2.2.2.2.2.2.2.2)) h := rfl
  rw [e, s7_fo (fun B t => s7_st (by omega)), s7_fo (g := fun B t => dDr P B (P.1 - 1 - t)) (fun B t => s7_dr)]
theorem dDr_ne {i j q : Nat} (hq : q ≠ 5 ∧ q ≠ 6) : (dDr P B i).1 j q = B.1 j q := by
  have h1 : (dD1 P B i).1 j q = B.1 j q := by
    unfold dD1
    by_cases c : B.on i
    · rw [if_pos c]; exact dB.st_ne (by omega)
    · rw [if_neg c]
  have h3 : (dD3 (dD2 P (dD1 P B i) i) i).1 j q = B.1 j q := (dB.st_ne (by omega)).trans ((dB.st_ne (by omega)).trans h1)
  unfold dDr dD4
  by_cases c : P.2.2.2 1 i < 0
  · rw [if_pos c]; exact h3
  · rw [if_neg c]; exact (dB.st_ne (by omega)).trans h3
theorem dMD_ne {j q : Nat} (hq : q ≠ 5 ∧ q ≠ 6) : (dMD P B).1 j q = B.1 j q := by
  have h1 := dFo_inv (g := fun B t => B.st t 5 0) (I := fun _ B' => B'.1 j q = B.1 j q) (n := P.1) (B := (B.1, B.2.1, B.2.2.1, B.2.2.2.1, 0, B.2.2.2.2.2.1, B.2.2.2.2.2.2.1, B.2.2.2.2.2.2.2.1, B.2.2.2.2.2.2.2.2)) rfl (fun t B' _ h1 => (dB.st_ne (by omega)).trans h1) P.1 (Nat.le_refl _)
  exact dFo_inv (g := fun B t => dDr P B (P.1 - 1 - t)) (I := fun _ B' => B'.1 j q = B.1 j q) (n := P.1) h1 (fun t B' _ h1 => (dDr_ne hq).trans h1) P.1 (Nat.le_refl _)
/-! trips -/
theorem s7_lat {set : Int32} : ∀ t, dLat (B.s7 h) set t = dLat B set t := by
  intro t
  induction t with
  | zero => rfl
  | succ t ih => unfold dLat; rw [ih]; rfl
theorem s7_uw {set : Int32} : ∀ t, dUW set t (B.s7 h) = (dUW set t B).s7 h := by
  intro t
  induction t with
  | zero => rfl
  | succ t ih =>
    unfold dUW
    rw [ih, s7_ite, s7_ne (by omega)]
    have : ((dUW set t B).s7 h).out t = ((dUW set t B).out t).s7 h := by
      unfold dB.out
      rw [s7_st (by omega)]; rfl
    rw [this]
theorem s7_row {n : Nat} {set : Int32} : ∀ (k : Nat) (B : dB), dRow n set k (B.s7 h) = (dRow n set k B).s7 h := by
  intro k
  induction k with
  | zero => intro B; rfl
  | succ k ih =>
    intro B
    unfold dRow
    rw [s7_lat]
    cases dLat B set n with
    | none => rfl
    | some i =>
      have : (B.s7 h).inr i = (B.inr i).s7 h := by
        unfold dB.inr
        rw [s7_st (by omega)]; rfl
      dsimp only
      rw [this, ih]
theorem s7_un {n : Nat} {set : Int32} : dUn n set (B.s7 h) = (dUn n set B).s7 h := by
  unfold dUn
  rw [s7_uw, s7_row]
theorem s7_trip {i : Nat} : dTrip P (B.s7 h) i = (dTrip P B i).s7 h := by
  have e : dTr0 P (B.s7 h) i = (dTr0 P B i).s7 h := by
    unfold dTr0
    rw [s7_st (by omega), s7_wr, s7_un, s7_st (by omega), s7_ne (by omega)]
  unfold dTrip
  rw [e, s7_ite]
  rfl
theorem dTrip_f {i j q : Nat} (hq : q ≠ 2 ∧ q ≠ 12 ∧ q ≠ 9) : (dTrip P B i).1 j q = B.1 j q := by
  have sm := dSm_un (n := P.1) (set := dSet P i) (B := (B.st i 9 (B.1 i 9 + 1)).wr (dn i) 2)
  have e : (dTr0 P B i).1 j q = B.1 j q := (dB.st_ne (by omega)).trans ((sm.f j q hq.1 hq.2.1).trans (dB.st_ne (by omega)))
  unfold dTrip
  by_cases c : (dTr0 P B i).2.2.2.2.2.1 = 1
  · rw [if_pos c]; exact e
  · rw [if_neg c]; exact e
theorem dTrip_2 {i j : Nat} (hj : ¬ B.1 j 2 = 1) : (dTrip P B i).1 j 2 = B.1 j 2 := by
  have sm := dSm_un (n := P.1) (set := dSet P i) (B := (B.st i 9 (B.1 i 9 + 1)).wr (dn i) 2)
  have e0 : ((B.st i 9 (B.1 i 9 + 1)).wr (dn i) 2).1 j 2 = B.1 j 2 := dB.st_ne (by omega)
  have e : (dTr0 P B i).1 j 2 = B.1 j 2 := (dB.st_ne (by omega)).trans ((sm.off j (by rw [e0]; exact hj)).trans e0)
  unfold dTrip
  by_cases c : (dTr0 P B i).2.2.2.2.2.1 = 1
  · rw [if_pos c]; exact e
  · rw [if_neg c]; exact e
/-- a trip makes none up that was not -/
theorem dUW_1 {set : Int32} {j : Nat} : ∀ t, (dUW set t B).1 j 2 = B.1 j 2 ∨ (dUW set t B).1 j 2 = 0 := by
  intro t
  induction t with
  | zero => exact Or.inl rfl
  | succ t ih =>
    unfold dUW
    by_cases c : db set t = true ∧ (dUW set t B).1 t 2 = 1
    · rw [if_pos c]
      by_cases e : j = t
      · subst e; exact Or.inr dB.st_eq
      · rw [dB.out_ne (Or.inl e)]; exact ih
    · rw [if_neg c]; exact ih
theorem dRow_2 {n : Nat} {set : Int32} {j : Nat} : ∀ (k : Nat) (B : dB), (dRow n set k B).1 j 2 = B.1 j 2 := by
  intro k
  induction k with
  | zero => intro B; rfl
  | succ k ih =>
    intro B
    unfold dRow
    cases dLat B set n with
    | none => rfl
    | some i => exact (ih _).trans (dB.inr_ne (by omega))
theorem dUn_3 {n : Nat} {set : Int32} {j : Nat} : (dUn n set B).1 j 2 = 3 ↔ B.1 j 2 = 3 := by
  have e : (dUn n set B).1 j 2 = (dUW set n B).1 j 2 := dRow_2 12 _
  rw [e]
  by_cases c : B.1 j 2 = 3
  · have := (dSm_uw (B := B) (set := set) n).off j (by rw [c]; decide)
    rw [this]
  · rcases dUW_1 (B := B) (set := set) (j := j) n with z | z
    · rw [z]
    · rw [z]
      exact ⟨fun y => absurd y (by decide), fun y => absurd y c⟩
theorem dTrip_3 {i j : Nat} : (dTrip P B i).1 j 2 = 3 ↔ B.1 j 2 = 3 := by
  have e0 : ((B.st i 9 (B.1 i 9 + 1)).wr (dn i) 2).1 j 2 = B.1 j 2 := dB.st_ne (by omega)
  have e : (dTr0 P B i).1 j 2 = 3 ↔ B.1 j 2 = 3 := by
    rw [show (dTr0 P B i).1 j 2 = (dUn P.1 (dSet P i) ((B.st i 9 (B.1 i 9 + 1)).wr (dn i) 2)).1 j 2 from dB.st_ne (by omega), dUn_3, e0]
  unfold dTrip
  by_cases c : (dTr0 P B i).2.2.2.2.2.1 = 1
  · rw [if_pos c]; exact e
  · rw [if_neg c]; exact e
def dTL21 (P : dP) (B : dB) (t : Nat) : dB := if B.1 t 2 = 3 ∧ P.2.2.2 14 3 ≤ B.1 t 7 ∧ t ∉ B.2.2.1 then dTrip P B t else B
def dTL2 (P : dP) (B : dB) : dB := dFo (dTL21 P) P.1 B
/-- low, of what is up, its volts, how long it was low -/
theorem dLw_c3 {B B' : dB} {t : Nat} (h2 : B.1 t 2 = 3 ↔ B'.1 t 2 = 3) (h3 : B.1 t 3 = B'.1 t 3) (h7 : B.1 t 7 = B'.1 t 7) : dLw P B t = dLw P B' t := by
  have e : (B.1 t 2 = 3 ∧ ¬ B.gd P t) ↔ (B'.1 t 2 = 3 ∧ ¬ B'.gd P t) := by
    unfold dB.gd
    rw [h3]
    constructor
    · intro ⟨a, b⟩; exact ⟨h2.mp a, fun z => b ⟨h2.mpr z.1, z.2⟩⟩
    · intro ⟨a, b⟩; exact ⟨h2.mpr a, fun z => b ⟨h2.mp z.1, z.2⟩⟩
  unfold dLw
  by_cases c : B.1 t 2 = 3 ∧ ¬ B.gd P t
  · rw [if_pos c, if_pos (e.mp c), h7]
  · rw [if_neg c, if_neg fun z => c (e.mpr z)]
/-- what the trips' loop leaves of what it reads -/
theorem dTL1_k (t : Nat) : (∀ j, ((dTL1 P B t).1 j 2 = 3 ↔ B.1 j 2 = 3) ∧ (dTL1 P B t).1 j 3 = B.1 j 3 ∧ (dTL1 P B t).1 j 7 = if j = t then dLw P B t else B.1 j 7) := by
  intro j
  have e7 : (B.st t 7 (dLw P B t)).1 j 7 = if j = t then dLw P B t else B.1 j 7 := by
    by_cases c : j = t
    · subst c; rw [if_pos rfl, dB.st_eq]
    · rw [if_neg c, dB.st_ne (Or.inl c)]
  have e : ((B.st t 7 (dLw P B t)).1 j 2 = 3 ↔ B.1 j 2 = 3) ∧ (B.st t 7 (dLw P B t)).1 j 3 = B.1 j 3 ∧ (B.st t 7 (dLw P B t)).1 j 7 = if j = t then dLw P B t else B.1 j 7 :=
    ⟨by rw [dB.st_ne (by omega)], dB.st_ne (by omega), e7⟩
  unfold dTL1
  by_cases c : dLw P B t < P.2.2.2 14 3
  · rw [if_pos c]; exact e
  · rw [if_neg c]
    by_cases c2 : t ∈ B.2.2.1
    · rw [if_pos c2]; exact e
    · rw [if_neg c2]
      exact ⟨dTrip_3.trans e.1, (dTrip_f (by omega)).trans e.2.1, (dTrip_f (by omega)).trans e.2.2⟩
theorem dTL_eq (hV : dWV P) (hh : ∀ j, h j = if j < P.1 then dLw P B j else B.1 j 7) : dTL2 P (B.s7 h) = dTL P B := by
  have key : ∀ t, t ≤ P.1 → dFo (dTL21 P) t (B.s7 h) = (dFo (dTL1 P) t B).s7 h ∧ ∀ j, ((dFo (dTL1 P) t B).1 j 2 = 3 ↔ B.1 j 2 = 3) ∧ (dFo (dTL1 P) t B).1 j 3 = B.1 j 3 ∧ (dFo (dTL1 P) t B).1 j 7 = if j < t then dLw P B j else B.1 j 7 := by
    intro t
    induction t with
    | zero => intro _; exact ⟨rfl, fun j => ⟨Iff.rfl, rfl, by rw [if_neg (by omega)]; rfl⟩⟩
    | succ t ih =>
      intro ht
      obtain ⟨h1, h2⟩ := ih (by omega)
      have ek := dTL1_k (P := P) (B := dFo (dTL1 P) t B) t
      have elw : dLw P (dFo (dTL1 P) t B) t = dLw P B t := by
        obtain ⟨a, b, c⟩ := h2 t
        exact dLw_c3 a b (by rw [c, if_neg (by omega)])
      refine ⟨?_, fun j => ?_⟩
      · show dTL21 P (dFo (dTL21 P) t (B.s7 h)) t = (dTL1 P (dFo (dTL1 P) t B) t).s7 h
        rw [h1]
        have hht : h t = dLw P B t := by rw [hh, if_pos (by omega)]
        have h2t := (h2 t).1
        generalize dFo (dTL1 P) t B = A at elw h2t
        unfold dTL21 dTL1
        rw [elw, s7_eq, s7_ne (by omega), hht, s7_ite, s7_ite, st_s7]
        by_cases c : dLw P B t < P.2.2.2 14 3
        · rw [if_pos c, if_neg (fun z => Int32.not_lt.mpr z.2.1 c)]
        · rw [if_neg c]
          by_cases c2 : t ∈ A.2.2.1
          · rw [if_pos c2, if_neg (fun z => z.2.2 c2)]
          · rw [if_neg c2]
            have h3 : A.1 t 2 = 3 := by
              rw [h2t]
              by_cases c3 : B.1 t 2 = 3 ∧ ¬ B.gd P t
              · exact c3.1
              · refine absurd ?_ c
                unfold dLw
                rw [if_neg c3, Int32.lt_iff_toInt_lt]
                have := hV.fi
                simp
                omega
            rw [if_pos ⟨h3, Int32.not_lt.mp c, c2⟩, ← s7_trip, st_s7]
      · obtain ⟨a, b, c⟩ := ek j
        obtain ⟨a', b', c'⟩ := h2 j
        refine ⟨a.trans a', b.trans b', c.trans ?_⟩
        by_cases e : j = t
        · subst e; rw [if_pos rfl, if_pos (by omega), elw]
        · rw [if_neg e, c']
          by_cases e2 : j < t
          · rw [if_pos e2, if_pos (by omega)]
          · rw [if_neg e2, if_neg (by omega)]
  obtain ⟨h1, h2⟩ := key P.1 (Nat.le_refl _)
  show dFo (dTL21 P) P.1 (B.s7 h) = dFo (dTL1 P) P.1 B
  rw [h1]
  exact s7_id fun j => by rw [(h2 j).2.2, hh]
theorem dTL_md (hV : dWV P) : dTL2 P (dMD P (dMV2 P B)) = dTL P (dMD P (dMV P B)) := by
  unfold dMV2 dMV
  rw [dV2_fo, s7_md]
  refine dTL_eq hV fun j => ?_
  unfold dlw
  by_cases c : j < P.1
  · rw [if_pos c, if_pos c]
    exact dLw_c (dMD_ne (by omega)).symm (dMD_ne (by omega)).symm (dMD_ne (by omega)).symm
  · rw [if_neg c, if_neg c, dMD_ne (by omega), dVo_7]
end D15
end
section
/-! the draws, summed another way -/
/-- a sum from a on -/
def dSu (g : Nat → Int32) (a : Nat) : Nat → Int32
  | 0 => 0
  | k + 1 => dSu g a k + g (a + k)
theorem dSu_head (g : Nat → Int32) (a : Nat) : ∀ k, dSu g a (k + 1) = g a + dSu g (a + 1) k := by
  intro k
  induction k with
  | zero => show (0 : Int32) + g (a + 0) = g a + 0; rw [Int32.zero_add, Int32.add_zero]; rfl
  | succ k ih =>
    have e1 : dSu g a (k + 1 + 1) = dSu g a (k + 1) + g (a + (k + 1)) := rfl
    have e2 : dSu g (a + 1) (k + 1) = dSu g (a + 1) k + g (a + 1 + k) := rfl
    rw [e1, e2, ih, Int32.add_assoc, show a + (k + 1) = a + 1 + k by omega]
theorem dSu_c {g g' : Nat → Int32} {a : Nat} : ∀ k, (∀ o, a ≤ o → o < a + k → g o = g' o) → dSu g a k = dSu g' a k := by
  intro k
  induction k with
  | zero => intro _; rfl
  | succ k ih =>
    intro h
    show dSu g a k + g (a + k) = dSu g' a k + g' (a + k)
    rw [ih fun o h1 h2 => h o h1 (by omega), h (a + k) (by omega) (by omega)]
def dCh (P : dP) (B : dB) (i o : Nat) : Int32 := if P.2.2.2 1 o = dn i then B.1 o 5 else 0
def dOwn (P : dP) (B : dB) (i : Nat) : Int32 := (if B.on i then B.1 i 0 * B.1 i 3 / P.2.2.2 2 i else 0) + P.2.2.2 4 i * B.1 i 4 / 16
def dIts (P : dP) (B : dB) (i : Nat) : Int32 := dOwn P B i + dSu (dCh P B i) (i + 1) (P.1 - (i + 1))
def dPut (B : dB) (i : Nat) (x : Int32) : dB := (B.st i 5 x).st i 6 (if x ≤ B.1 i 1 then 0 else 1)
def dDr2 (P : dP) (B : dB) (i : Nat) : dB := ((dPut B i (dIts P B i)).1, (dPut B i (dIts P B i)).2.1, (dPut B i (dIts P B i)).2.2.1, (dPut B i (dIts P B i)).2.2.2.1, B.2.2.2.2.1 + if P.2.2.2 1 i = -2 then dIts P B i else 0, (dPut B i (dIts P B i)).2.2.2.2.2.1, (dPut B i (dIts P B i)).2.2.2.2.2.2.1, (dPut B i (dIts P B i)).2.2.2.2.2.2.2.1, (dPut B i (dIts P B i)).2.2.2.2.2.2.2.2)
def dMD2 (P : dP) (B : dB) : dB := dFo (fun B t => dDr2 P B (P.1 - 1 - t)) P.1 (B.1, B.2.1, B.2.2.1, B.2.2.2.1, 0, B.2.2.2.2.2.1, B.2.2.2.2.2.2.1, B.2.2.2.2.2.2.2.1, B.2.2.2.2.2.2.2.2)
abbrev dRS (P : dP) (m : Nat) (A C : dB) : Prop := (∀ j q, ¬ (q = 5 ∧ j < m) → A.1 j q = C.1 j q) ∧ (∀ j, j < m → A.1 j 5 = dSu (dCh P C j) m (P.1 - m)) ∧ (A.2.2.2.2.1 = C.2.2.2.2.1) ∧ (A.2.1 = C.2.1) ∧ (A.2.2.1 = C.2.2.1) ∧ (A.2.2.2.1 = C.2.2.2.1) ∧ (A.2.2.2.2.2.1 = C.2.2.2.2.2.1) ∧ (A.2.2.2.2.2.2.1 = C.2.2.2.2.2.2.1) ∧ (A.2.2.2.2.2.2.2.1 = C.2.2.2.2.2.2.2.1) ∧ (A.2.2.2.2.2.2.2.2 = C.2.2.2.2.2.2.2.2)
theorem dRS.f {P : dP} {m : Nat} {A C : dB} (h0 : dRS P m A C) : ∀ j q, ¬ (q = 5 ∧ j < m) → A.1 j q = C.1 j q := h0.1
theorem dRS.s {P : dP} {m : Nat} {A C : dB} (h0 : dRS P m A C) : ∀ j, j < m → A.1 j 5 = dSu (dCh P C j) m (P.1 - m) := h0.2.1
theorem dRS.total {P : dP} {m : Nat} {A C : dB} (h0 : dRS P m A C) : A.2.2.2.2.1 = C.2.2.2.2.1 := h0.2.2.1
theorem dRS.w {P : dP} {m : Nat} {A C : dB} (h0 : dRS P m A C) : A.2.1 = C.2.1 := h0.2.2.2.1
theorem dRS.r {P : dP} {m : Nat} {A C : dB} (h0 : dRS P m A C) : A.2.2.1 = C.2.2.1 := h0.2.2.2.2.1
theorem dRS.tick {P : dP} {m : Nat} {A C : dB} (h0 : dRS P m A C) : A.2.2.2.1 = C.2.2.2.1 := h0.2.2.2.2.2.1
theorem dRS.mode {P : dP} {m : Nat} {A C : dB} (h0 : dRS P m A C) : A.2.2.2.2.2.1 = C.2.2.2.2.2.1 := h0.2.2.2.2.2.2.1
theorem dRS.step {P : dP} {m : Nat} {A C : dB} (h0 : dRS P m A C) : A.2.2.2.2.2.2.1 = C.2.2.2.2.2.2.1 := h0.2.2.2.2.2.2.2.1
theorem dRS.stay {P : dP} {m : Nat} {A C : dB} (h0 : dRS P m A C) : A.2.2.2.2.2.2.2.1 = C.2.2.2.2.2.2.2.1 := h0.2.2.2.2.2.2.2.2.1
theorem dRS.log {P : dP} {m : Nat} {A C : dB} (h0 : dRS P m A C) : A.2.2.2.2.2.2.2.2 = C.2.2.2.2.2.2.2.2 := h0.2.2.2.2.2.2.2.2.2
section D16
variable {P : dP} {A B C : dB}
theorem dB.st_st' {i q : Nat} {v v' : Int32} : (B.st i q v).st i q v' = B.st i q v' := by
  have : (fun j k => if j = i ∧ k = q then v' else (B.st i q v).1 j k) = fun j k => if j = i ∧ k = q then v' else B.1 j k := by
    funext j k
    by_cases c : j = i ∧ k = q
    · rw [if_pos c, if_pos c]
    · rw [if_neg c, if_neg c]
      exact if_neg c
  show (_, B.2.1, B.2.2.1, B.2.2.2.1, B.2.2.2.2.1, B.2.2.2.2.2.1, B.2.2.2.2.2.2.1, B.2.2.2.2.2.2.2.1, B.2.2.2.2.2.2.2.2) = ((_, B.2.1, B.2.2.1, B.2.2.2.1, B.2.2.2.2.1, B.2.2.2.2.2.1, B.2.2.2.2.2.2.1, B.2.2.2.2.2.2.2.1, B.2.2.2.2.2.2.2.2) : dB)
  rw [this]
theorem dDr_p {i : Nat} : dD3 (dD2 P (dD1 P A i) i) i = dPut A i (A.1 i 5 + dOwn P A i) := by
  have h1 : dD1 P A i = A.st i 5 (A.1 i 5 + if A.on i then A.1 i 0 * A.1 i 3 / P.2.2.2 2 i else 0) := by
    unfold dD1
    by_cases c : A.on i
    · rw [if_pos c, if_pos c]
    · rw [if_neg c, if_neg c, Int32.add_zero, dB.st_id rfl]
  have h2 : dD2 P (dD1 P A i) i = A.st i 5 (A.1 i 5 + dOwn P A i) := by
    unfold dD2
    rw [h1, dB.st_eq, dB.st_ne (Or.inr (by omega)), dB.st_st']
    unfold dOwn
    rw [Int32.add_assoc]
  rw [h2]
  unfold dD3 dPut
  rw [dB.st_eq, dB.st_ne (Or.inr (by omega))]
theorem dPut_f {i j q : Nat} {x : Int32} : (dPut B i x).1 j q = if j = i ∧ q = 5 then x else if j = i ∧ q = 6 then (if x ≤ B.1 i 1 then 0 else 1) else B.1 j q := by
  show (if j = i ∧ q = 6 then _ else if j = i ∧ q = 5 then _ else _) = _
  by_cases c : j = i ∧ q = 5
  · rw [if_neg (by omega), if_pos c, if_pos c]
  · rw [if_neg c, if_neg c]
theorem dRS_s {i : Nat} (hV : dWV P) (hn : P.1 ≤ 12) (hi : i < P.1) (h : dRS P (i + 1) A C) : dRS P i (dDr P A i) (dDr2 P C i) := by
  have eon : A.on i ↔ C.on i := by unfold dB.on; rw [h.f i 2 (by omega)]
  have eown : dOwn P A i = dOwn P C i := by
    unfold dOwn
    rw [h.f i 0 (by omega), h.f i 3 (by omega), h.f i 4 (by omega)]
    by_cases c : A.on i
    · rw [if_pos c, if_pos (eon.mp c)]
    · rw [if_neg c, if_neg (fun z => c (eon.mpr z))]
  have eits : A.1 i 5 + dOwn P A i = dIts P C i := by
    rw [h.s i (by omega), eown, Int32.add_comm]; rfl
  have e3 := dDr_p (P := P) (A := A) (i := i)
  rw [eits] at e3
  have e1 : A.1 i 1 = C.1 i 1 := h.f i 1 (by omega)
  have hC : ∀ j q, (dDr2 P C i).1 j q = if j = i ∧ q = 5 then dIts P C i else if j = i ∧ q = 6 then (if dIts P C i ≤ C.1 i 1 then 0 else 1) else C.1 j q := fun j q => dPut_f
  have hA : ∀ j q, (dPut A i (dIts P C i)).1 j q = if j = i ∧ q = 5 then dIts P C i else if j = i ∧ q = 6 then (if dIts P C i ≤ C.1 i 1 then 0 else 1) else A.1 j q := fun j q => by rw [← e1]; exact dPut_f
  have hsum : ∀ j, j < i → dSu (dCh P (dDr2 P C i) j) i (P.1 - i) = A.1 j 5 + if P.2.2.2 1 i = dn j then dIts P C i else 0 := fun j hj => by
    rw [show P.1 - i = P.1 - (i + 1) + 1 by omega, dSu_head, h.s j (by omega), Int32.add_comm]
    congr 1
    · refine dSu_c _ fun o h1 _ => ?_
      have e := hC o 5
      rw [if_neg (by omega), if_neg (by omega)] at e
      unfold dCh
      rw [e]
    · have e := hC i 5
      rw [if_pos ⟨rfl, rfl⟩] at e
      unfold dCh
      rw [e]
  unfold dDr
  rw [e3]
  unfold dD4
  rcases hV.pr i hi with e | ⟨p, hp, e⟩
  · rw [if_pos (by rw [e]; decide)]
    refine ⟨fun j q hj => ?_, fun j hj => ?_, ?_, h.w, h.r, h.tick, h.mode, h.step, h.stay, h.log⟩
    · rw [hC]
      show (dPut A i (dIts P C i)).1 j q = _
      rw [hA]
      by_cases c1 : j = i ∧ q = 5
      · rw [if_pos c1, if_pos c1]
      · rw [if_neg c1, if_neg c1, h.f j q (by omega)]
    · rw [hsum j hj, if_neg (by
        rw [e]
        intro z
        have := congrArg Int32.toInt z
        rw [dn_toInt (by omega)] at this
        have e2 : (-2 : Int32).toInt = -2 := by decide
        rw [e2] at this
        omega), Int32.add_zero]
      show (dPut A i (dIts P C i)).1 j 5 = _
      rw [hA, if_neg (by omega), if_neg (by omega)]
    · show (dPut A i (dIts P C i)).2.2.2.2.1 + (dPut A i (dIts P C i)).1 i 5 = C.2.2.2.2.1 + if P.2.2.2 1 i = -2 then dIts P C i else 0
      rw [hA, if_pos ⟨rfl, rfl⟩, if_pos e]
      show A.2.2.2.2.1 + _ = _
      rw [h.total]
  · have hp2 : ¬ P.2.2.2 1 i = -2 := by
      rw [e]
      intro z
      have := congrArg Int32.toInt z
      rw [dn_toInt (by omega)] at this
      have e2 : (-2 : Int32).toInt = -2 := by decide
      rw [e2] at this
      omega
    rw [e, if_neg (dn_nn (by omega)), dn_nat (by omega)]
    refine ⟨fun j q hj => ?_, fun j hj => ?_, ?_, h.w, h.r, h.tick, h.mode, h.step, h.stay, h.log⟩
    · rw [hC, dB.st_ne (by omega), hA]
      by_cases c1 : j = i ∧ q = 5
      · rw [if_pos c1, if_pos c1]
      · rw [if_neg c1, if_neg c1, h.f j q (by omega)]
    · rw [hsum j hj, e]
      by_cases c : j = p
      · subst c
        rw [dB.st_eq, if_pos rfl, hA, hA, if_neg (by omega), if_neg (by omega), if_pos ⟨rfl, rfl⟩]
      · rw [dB.st_ne (Or.inl c), if_neg (by rw [dn_inj (by omega) (by omega)]; omega), hA, if_neg (by omega), if_neg (by omega), Int32.add_zero]
    · show A.2.2.2.2.1 = C.2.2.2.2.1 + if P.2.2.2 1 i = -2 then dIts P C i else 0
      rw [if_neg hp2, Int32.add_zero, h.total]
theorem dB.ext' {A B : dB} (hf : A.1 = B.1) (hw : A.2.1 = B.2.1) (hr : A.2.2.1 = B.2.2.1) (h1 : A.2.2.2.1 = B.2.2.2.1) (h2 : A.2.2.2.2.1 = B.2.2.2.2.1) (h3 : A.2.2.2.2.2.1 = B.2.2.2.2.2.1) (h4 : A.2.2.2.2.2.2.1 = B.2.2.2.2.2.2.1) (h5 : A.2.2.2.2.2.2.2.1 = B.2.2.2.2.2.2.2.1) (h6 : A.2.2.2.2.2.2.2.2 = B.2.2.2.2.2.2.2.2) : A = B := by
  exact Prod.ext hf (Prod.ext hw (Prod.ext hr (Prod.ext h1 (Prod.ext h2 (Prod.ext h3 (Prod.ext h4 (Prod.ext h5 h6)))))))
theorem dMD_eq (hV : dWV P) (hn : P.1 ≤ 12) : dMD P B = dMD2 P B := by
  have h0 : ∀ t, (∀ j q, ¬ (q = 5 ∧ j < t) → (dFo (fun B t => B.st t 5 0) t (B.1, B.2.1, B.2.2.1, B.2.2.2.1, 0, B.2.2.2.2.2.1, B.2.2.2.2.2.2.1, B.2.2.2.2.2.2.2.1, B.2.2.2.2.2.2.2.2)).1 j q = B.1 j q) ∧ (∀ j, j < t → (dFo (fun B t => B.st t 5 0) t (B.1, B.2.1, B.2.2.1, B.2.2.2.1, 0, B.2.2.2.2.2.1, B.2.2.2.2.2.2.1, B.2.2.2.2.2.2.2.1, B.2.2.2.2.2.2.2.2)).1 j 5 = 0) ∧ (dFo (fun B t => B.st t 5 0) t (B.1, B.2.1, B.2.2.1, B.2.2.2.1, 0, B.2.2.2.2.2.1, B.2.2.2.2.2.2.1, B.2.2.2.2.2.2.2.1, B.2.2.2.2.2.2.2.2)) = (((dFo (fun B t => B.st t 5 0) t (B.1, B.2.1, B.2.2.1, B.2.2.2.1, 0, B.2.2.2.2.2.1, B.2.2.2.2.2.2.1, B.2.2.2.2.2.2.2.1, B.2.2.2.2.2.2.2.2))).1, B.2.1, B.2.2.1, B.2.2.2.1, 0, B.2.2.2.2.2.1, B.2.2.2.2.2.2.1, B.2.2.2.2.2.2.2.1, B.2.2.2.2.2.2.2.2) := by
    intro t
    induction t with
    | zero => exact ⟨fun _ _ _ => rfl, fun j hj => absurd hj (by omega), rfl⟩
    | succ t ih =>
      obtain ⟨i1, i2, i3⟩ := ih
      refine ⟨fun j q hj => (dB.st_ne (by omega)).trans (i1 j q (by omega)), fun j hj => ?_, ?_⟩
      · by_cases c : j = t
        · subst c; exact dB.st_eq
        · exact (dB.st_ne (Or.inl c)).trans (i2 j (by omega))
      · conv => lhs; unfold dFo; rw [i3]
        conv => rhs; unfold dFo
        rfl
  obtain ⟨i1, i2, i3⟩ := h0 P.1
  unfold dMD dMD2
  have key : ∀ t, t ≤ P.1 → dRS P (P.1 - t) (dFo (fun B t => dDr P B (P.1 - 1 - t)) t (dFo (fun B t => B.st t 5 0) P.1 (B.1, B.2.1, B.2.2.1, B.2.2.2.1, 0, B.2.2.2.2.2.1, B.2.2.2.2.2.2.1, B.2.2.2.2.2.2.2.1, B.2.2.2.2.2.2.2.2))) (dFo (fun B t => dDr2 P B (P.1 - 1 - t)) t (B.1, B.2.1, B.2.2.1, B.2.2.2.1, 0, B.2.2.2.2.2.1, B.2.2.2.2.2.2.1, B.2.2.2.2.2.2.2.1, B.2.2.2.2.2.2.2.2)) := by
    intro t
    induction t with
    | zero =>
      intro _
      show dRS P (P.1 - 0) (dFo (fun B t => B.st t 5 0) P.1 (B.1, B.2.1, B.2.2.1, B.2.2.2.1, 0, B.2.2.2.2.2.1, B.2.2.2.2.2.2.1, B.2.2.2.2.2.2.2.1, B.2.2.2.2.2.2.2.2)) (B.1, B.2.1, B.2.2.1, B.2.2.2.1, 0, B.2.2.2.2.2.1, B.2.2.2.2.2.2.1, B.2.2.2.2.2.2.2.1, B.2.2.2.2.2.2.2.2)
      rw [i3]
      refine ⟨fun j q hj => i1 j q (by omega), fun j hj => ?_, rfl, rfl, rfl, rfl, rfl, rfl, rfl, rfl⟩
      rw [show P.1 - (P.1 - 0) = 0 by omega]
      exact i2 j (by omega)
    | succ t ih =>
      intro ht
      have := ih (by omega)
      rw [show P.1 - t = P.1 - 1 - t + 1 by omega] at this
      rw [show P.1 - (t + 1) = P.1 - 1 - t by omega]
      exact dRS_s hV hn (by omega) this
  have h := key P.1 (Nat.le_refl _)
  rw [show P.1 - P.1 = 0 by omega] at h
  exact dB.ext' (funext fun j => funext fun q => h.f j q (by omega)) h.w h.r h.tick h.total h.mode h.step h.stay h.log
end D16
end
section
def dDrT (σ : pxS) (v1 v2 e15 : Int32) : Option ((Int32 × pxS) ⊕ (pxS)) :=
  px_gd (v2 + 2) 308 (px_l (px_up σ (1, 28, 0) (v2 + 2).toNatClampNeg e15) fun σ17 =>
  px_gd (v2 + 7) 308 ((if e15 ≤ (σ17 (1, 28, 0) (v2 + 7).toNatClampNeg) then px_gd (v2 + 3) 308 (px_l (px_up σ17 (1, 28, 0) (v2 + 3).toNatClampNeg 0) fun σ20 =>
  px_gd v1 24 ((if (σ20 (1, 6, 0) v1.toNatClampNeg) = (-2) then px_l (px_up σ20 (1, 28, 0) 186 ((σ20 (1, 28, 0) 186) + e15)) fun σ23 =>
  some (.inl ((v1 + (-1)), σ23)) else px_l (px_up σ20 (1, 28, 0) 186 ((σ20 (1, 28, 0) 186) + 0)) fun σ22 =>
  some (.inl ((v1 + (-1)), σ22))))) else px_gd (v2 + 3) 308 (px_l (px_up σ17 (1, 28, 0) (v2 + 3).toNatClampNeg 1) fun σ26 =>
  px_gd v1 24 ((if (σ26 (1, 6, 0) v1.toNatClampNeg) = (-2) then px_l (px_up σ26 (1, 28, 0) 186 ((σ26 (1, 28, 0) 186) + e15)) fun σ29 =>
  some (.inl ((v1 + (-1)), σ29)) else px_l (px_up σ26 (1, 28, 0) 186 ((σ26 (1, 28, 0) 186) + 0)) fun σ28 =>
  some (.inl ((v1 + (-1)), σ28))))))))
theorem n43_eq (σ : pxS) (v1 v2 : Int32) : Mo_draws_n43 σ v1 v2 = px_gd (v2 + 6) 308 (px_gd (v2 + 1) 308 (px_gd v1 24 (px_gz (σ (1, 7, 0) v1.toNatClampNeg) (px_gd v1 24 (px_gd v1 12 (px_b1 (px_it (Mo_draws_L97 σ v1 v2) px_N (((((σ (1, 28, 0) (v2 + 6).toNatClampNeg) * (σ (1, 28, 0) (v2 + 1).toNatClampNeg)) / (σ (1, 7, 0) v1.toNatClampNeg)) + (((σ (1, 9, 0) v1.toNatClampNeg) * (σ (1, 34, 0) v1.toNatClampNeg)) / 16)), (v1 + 1))) fun e15 => dDrT σ v1 v2 e15)))))) := rfl
theorem n16_eq (σ : pxS) (v1 : Int32) : Mo_draws_n16 σ v1 = (if v1 < 0 then some (.inr σ) else px_b1 (F_Mo_state σ v1) fun r3 =>
  (if r3 = 2 then Mo_draws_n43 σ v1 (13 * v1) else px_b1 (F_Mo_state σ v1) fun r32 =>
  (if r32 = 3 then Mo_draws_n43 σ v1 (13 * v1) else px_gd v1 24 (px_gd v1 12 (px_b1 (px_it (Mo_draws_L97 σ v1 (13 * v1)) px_N ((0 + (((σ (1, 9, 0) v1.toNatClampNeg) * (σ (1, 34, 0) v1.toNatClampNeg)) / 16)), (v1 + 1))) fun e35 => dDrT σ v1 (13 * v1) e35))))) := rfl
section E17
variable {α : Type} {μ : pxS} {P : dP} {B B1 B2 : dB} {Q : α → Prop}
theorem dWB_dr {i : Nat} (h : dWB P B) : dWB P (dDr2 P B i) := dWB_md (dWB_st (dWB_st h (by omega)) (by omega)) rfl rfl rfl
theorem dU_drT {i : Nat} {QQ : pxS → Prop} (h : dM μ P B) (hB : dWB P B) (hn : P.1 ≤ 12) (hi : i < P.1) : dw (dDrT μ (dn i) (13 * dn i) (dIts P B i)) (dR (fun s => s.1 = dn i + (-1) ∧ dM s.2 P (dDr2 P B i) ∧ dG μ s.2) QQ) := by
  unfold dDrT
  rw [show 13 * dn i + 2 = dn (13 * i + 2) from ix i 2, show 13 * dn i + 3 = dn (13 * i + 3) from ix i 3, show 13 * dn i + 7 = dn (13 * i + 7) from ix i 7]
  refine du_st (5, 2) h hn hi (by decide) rfl fun μ1 h1 g1 => dw_gi (by omega) (by omega) ?_
  rw [show μ1 (1, 28, 0) (dn (13 * i + 7)).toNatClampNeg = B.1 i 1 from by rw [dn_nat (by omega)]; exact (h1.s.f i hi (1, 7) (by decide)).trans (dB.st_ne (Or.inr (by decide)))]
  have key : ∀ μ2, dM μ2 P (dPut B i (dIts P B i)) → dG μ μ2 → dw (px_gd (dn i) 24 ((if (μ2 (1, 6, 0) (dn i).toNatClampNeg) = (-2) then px_l (px_up μ2 (1, 28, 0) 186 ((μ2 (1, 28, 0) 186) + (dIts P B i))) fun σ23 =>
  some (.inl ((dn i + (-1)), σ23)) else px_l (px_up μ2 (1, 28, 0) 186 ((μ2 (1, 28, 0) 186) + 0)) fun σ22 =>
  some (.inl ((dn i + (-1)), σ22))))) (dR (fun s => s.1 = dn i + (-1) ∧ dM s.2 P (dDr2 P B i) ∧ dG μ s.2) QQ) := fun μ2 h2 g2 => by
    refine dw_gi (by omega) (by omega) ?_
    rw [dn_nat (by omega), h2.P.a 1 (by omega) i hi, h2.s.total]
    have hB2 : dWB P (dPut B i (dIts P B i)) := dWB_st (dWB_st hB (by omega)) (by omega)
    have e0 : (dPut B i (dIts P B i)).2.2.2.2.1 = B.2.2.2.2.1 := rfl
    rw [e0]
    by_cases c : P.2.2.2 1 i = -2
    · rw [if_pos c]
      refine du_bd (dDr2 P B i) h2 hB2 hn (by omega) ⟨rfl, rfl, rfl, rfl⟩ rfl (by
        show B.2.2.2.2.1 + dIts P B i = B.2.2.2.2.1 + _
        rw [if_pos c]) rfl rfl rfl fun μ3 h3 g3 => ?_
      simp only [dw_some, dR_l]
      exact ⟨trivial, h3, dG_trans g2 g3⟩
    · rw [if_neg c]
      refine du_bd (dDr2 P B i) h2 hB2 hn (by omega) ⟨rfl, rfl, rfl, rfl⟩ rfl (by
        show B.2.2.2.2.1 + 0 = B.2.2.2.2.1 + _
        rw [if_neg c]) rfl rfl rfl fun μ3 h3 g3 => ?_
      simp only [dw_some, dR_l]
      exact ⟨trivial, h3, dG_trans g2 g3⟩
  by_cases c : dIts P B i ≤ B.1 i 1
  · rw [if_pos c]
    refine du_st (6, 3) h1 hn hi (by decide) rfl fun μ2 h2 g2 => key μ2 ?_ (dG_trans g1 g2)
    unfold dPut
    rw [if_pos c]; exact h2
  · rw [if_neg c]
    refine du_st (6, 3) h1 hn hi (by decide) rfl fun μ2 h2 g2 => key μ2 ?_ (dG_trans g1 g2)
    unfold dPut
    rw [if_neg c]; exact h2
/-- the sum over those told under a rail -/
theorem dU_ch {i : Nat} {x : Int32} (h : dM μ P B) (hn : P.1 ≤ 12) (hi : i < P.1) : dw (px_it (Mo_draws_L97 μ (dn i) (13 * dn i)) px_N (x, dn i + 1)) (fun r => r = x + dSu (dCh P B i) (i + 1) (P.1 - (i + 1))) := by
  rw [dn_suc]
  refine dw_up (P.1 - (i + 1)) (by unfold px_N; omega) (fun t s => s.1 = x + dSu (dCh P B i) (i + 1) t ∧ s.2 = dn (i + 1 + t)) (fun t s ht hI => ?_) (fun s hI => ?_) (Nat.zero_le _) ⟨(Int32.add_zero x).symm, rfl⟩
  · obtain ⟨v3, v4⟩ := s
    obtain ⟨rfl, rfl⟩ := hI
    show dw (Mo_draws_n97 μ _ _ _ _) _
    unfold Mo_draws_n97
    refine dw_v (dM_n h) ?_
    rw [if_neg (by rw [dn_le (by omega) (by omega)]; omega), show 13 * dn (i + 1 + t) + 2 = dn (13 * (i + 1 + t) + 2) from ix _ 2]
    refine dw_gi (by omega) (by omega) ?_
    rw [dn_nat (by omega), h.P.a 1 (by omega) (i + 1 + t) (by omega)]
    by_cases c : P.2.2.2 1 (i + 1 + t) = dn i
    · rw [if_pos c]
      refine dw_gi (by omega) (by omega) ?_
      rw [dn_nat (by omega), h.s.f (i + 1 + t) (by omega) (5, 2) (by decide)]
      simp only [dw_some, dR_l]
      refine ⟨?_, dn_suc _⟩
      rw [Int32.add_assoc]
      congr 1
      show _ = dSu (dCh P B i) (i + 1) t + dCh P B i (i + 1 + t)
      unfold dCh
      rw [if_pos c]
    · rw [if_neg c]
      simp only [dw_some, dR_l]
      refine ⟨?_, dn_suc _⟩
      rw [Int32.add_assoc]
      congr 1
      show _ = dSu (dCh P B i) (i + 1) t + dCh P B i (i + 1 + t)
      conv => rhs; arg 2; unfold dCh
      rw [if_neg c]
  · obtain ⟨v3, v4⟩ := s
    obtain ⟨rfl, rfl⟩ := hI
    show dw (Mo_draws_n97 μ _ _ _ _) _
    unfold Mo_draws_n97
    refine dw_v (dM_n h) ?_
    rw [if_pos (by rw [dn_le (by omega) (by omega)]; omega)]
    simp only [dw_some, dR_r]
theorem dDr2_ne {i j q : Nat} (hq : q ≠ 5 ∧ q ≠ 6) : (dDr2 P B i).1 j q = B.1 j q := (dB.st_ne (by omega)).trans (dB.st_ne (by omega))
theorem dU_dr (h : dM μ P B) (hP : dWP P) (hV : dWV P) (hB : dWB P B) (hr : ∀ i, i < P.1 → μ (1, 34, 0) i = B.1 i 4) : dU μ P (F_Mo_draws μ) (dMD2 P B) := by
  have hn := hP.n
  unfold F_Mo_draws dMD2
  refine du_bd (B.1, B.2.1, B.2.2.1, B.2.2.2.1, 0, B.2.2.2.2.2.1, B.2.2.2.2.2.2.1, B.2.2.2.2.2.2.2.1, B.2.2.2.2.2.2.2.2) h hB hn (by omega) ⟨rfl, rfl, rfl, rfl⟩ rfl rfl rfl rfl rfl fun τ0 g0 f0 => dw_v (dM_n g0) ?_
  have hr0 : ∀ i, i < P.1 → τ0 (1, 34, 0) i = ((B.1, B.2.1, B.2.2.1, B.2.2.2.1, 0, B.2.2.2.2.2.1, B.2.2.2.2.2.2.1, B.2.2.2.2.2.2.2.1, B.2.2.2.2.2.2.2.2) : dB).1 i 4 := fun i hi => by rw [f0 _ (by simp [dmk])]; exact hr i hi
  have hB0 : dWB P (B.1, B.2.1, B.2.2.1, B.2.2.2.1, 0, B.2.2.2.2.2.1, B.2.2.2.2.2.2.1, B.2.2.2.2.2.2.2.1, B.2.2.2.2.2.2.2.2) := dWB_md hB rfl rfl rfl
  generalize ((B.1, B.2.1, B.2.2.1, B.2.2.2.1, 0, B.2.2.2.2.2.1, B.2.2.2.2.2.2.1, B.2.2.2.2.2.2.2.1, B.2.2.2.2.2.2.2.2) : dB) = B0 at g0 hr0 hB0
  refine dw_b1.mpr (dw_mono (P := fun τ' => dM τ' P (dFo (fun B t => dDr2 P B (P.1 - 1 - t)) P.1 B0) ∧ dG μ τ') ?_ fun τ' h' => dw_some.mpr h')
  refine dw_up P.1 (by unfold px_N; omega) (fun t s => s.1 = dn (P.1 - t) - 1 ∧ dM s.2 P (dFo (fun B t => dDr2 P B (P.1 - 1 - t)) t B0) ∧ dG μ s.2 ∧ dWB P (dFo (fun B t => dDr2 P B (P.1 - 1 - t)) t B0) ∧ ∀ i, i < P.1 → s.2 (1, 34, 0) i = (dFo (fun B t => dDr2 P B (P.1 - 1 - t)) t B0).1 i 4) (fun t s ht hI => ?_) (fun s hI => ?_) (Nat.zero_le _) ⟨rfl, g0, f0, hB0, hr0⟩
  · obtain ⟨v, τ⟩ := s
    obtain ⟨rfl, h1, h2, h3, h4⟩ := hI
    dsimp only at h1 h2 h4
    have e0 : dn (P.1 - t) - 1 = dn (P.1 - 1 - t) := by
      rw [show (1 : Int32) = dn 1 from rfl, dn_sub (by omega)]
      congr 1
      omega
    have e1 : dn (P.1 - 1 - t) + (-1) = dn (P.1 - (t + 1)) - 1 := by
      rw [Int32.sub_eq_add_neg]
      congr 2
      omega
    show dw (Mo_draws_n16 τ (dn (P.1 - t) - 1)) (dR (fun s => s.1 = dn (P.1 - (t + 1)) - 1 ∧ dM s.2 P (dDr2 P (dFo (fun B t => dDr2 P B (P.1 - 1 - t)) t B0) (P.1 - 1 - t)) ∧ dG μ s.2 ∧ dWB P (dDr2 P (dFo (fun B t => dDr2 P B (P.1 - 1 - t)) t B0) (P.1 - 1 - t)) ∧ ∀ i, i < P.1 → s.2 (1, 34, 0) i = (dDr2 P (dFo (fun B t => dDr2 P B (P.1 - 1 - t)) t B0) (P.1 - 1 - t)).1 i 4) _)
    rw [e0, ← e1]
    have hi : P.1 - 1 - t < P.1 := by omega
    generalize P.1 - 1 - t = i at hi
    generalize dFo (fun B t => dDr2 P B (P.1 - 1 - t)) t B0 = B at h1 h3 h4
    rw [n16_eq, if_neg (dn_nn (by omega))]
    have fin : ∀ {QQ : pxS → Prop}, dw (dDrT τ (dn i) (13 * dn i) (dIts P B i)) (dR (fun s => s.1 = dn i + (-1) ∧ dM s.2 P (dDr2 P B i) ∧ dG μ s.2 ∧ dWB P (dDr2 P B i) ∧ ∀ j, j < P.1 → s.2 (1, 34, 0) j = (dDr2 P B i).1 j 4) QQ) := fun {QQ} => by
      refine dw_mono (dU_drT (QQ := QQ) h1 h3 hn hi) fun r hr => ?_
      cases r with
      | inl s => exact ⟨hr.1, hr.2.1, dG_trans h2 hr.2.2, dWB_dr h3, fun j hj => by rw [hr.2.2 _ (by simp [dmk]), h4 j hj, dDr2_ne (by omega)]⟩
      | inr e => exact hr
    have hlv := hV.lv i hi
    have own : ∀ {QQ : pxS → Prop}, B.on i → dw (Mo_draws_n43 τ (dn i) (13 * dn i)) (dR (fun s => s.1 = dn i + (-1) ∧ dM s.2 P (dDr2 P B i) ∧ dG μ s.2 ∧ dWB P (dDr2 P B i) ∧ ∀ j, j < P.1 → s.2 (1, 34, 0) j = (dDr2 P B i).1 j 4) QQ) := fun {QQ} ho => by
      rw [n43_eq]
      rw [show 13 * dn i + 6 = dn (13 * i + 6) from ix i 6, show 13 * dn i + 1 = dn (13 * i + 1) from ix i 1]
      refine dw_gi (by omega) (by omega) (dw_gi (by omega) (by omega) (dw_gi (by omega) (by omega) ?_))
      rw [dn_nat (show 13 * i + 6 < 2147483648 by omega), dn_nat (show 13 * i + 1 < 2147483648 by omega), dn_nat (show i < 2147483648 by omega), h1.P.a 2 (by omega) i hi, h1.P.a 4 (by omega) i hi, h4 i hi, show τ (1, 28, 0) (13 * i + 6) = B.1 i 0 from h1.s.f i hi (0, 6) (by decide), show τ (1, 28, 0) (13 * i + 1) = B.1 i 3 from h1.s.f i hi (3, 1) (by decide)]
      rw [dw_gz]
      refine ⟨fun e => by rw [e] at hlv; simp at hlv, dw_gi (by omega) (by omega) (dw_gi (by omega) (by omega) ?_)⟩
      rw [dw_b1]
      refine dw_mono (dU_ch h1 hn hi) fun r hr => ?_
      have : r = dIts P B i := by
        rw [hr]
        unfold dIts dOwn
        rw [if_pos ho]
      rw [this]
      exact fin
    refine dw_v (dM_state h1 hn hi) (dw_ite (fun c => own (Or.inl c)) (fun c => ?_))
    refine dw_v (dM_state h1 hn hi) (dw_ite (fun c2 => own (Or.inr c2)) (fun c2 => ?_))
    refine dw_gi (by omega) (by omega) (dw_gi (by omega) (by omega) ?_)
    rw [dn_nat (show i < 2147483648 by omega), h1.P.a 4 (by omega) i hi, h4 i hi, dw_b1]
    refine dw_mono (dU_ch h1 hn hi) fun r hr => ?_
    have : r = dIts P B i := by
      rw [hr]
      unfold dIts dOwn
      rw [if_neg (fun z : B.on i => z.elim c c2)]
    rw [this]
    exact fin
  · obtain ⟨v, τ⟩ := s
    obtain ⟨rfl, h1, h2, _⟩ := hI
    show dw (Mo_draws_n16 τ (dn (P.1 - P.1) - 1)) _
    rw [n16_eq, show P.1 - P.1 = 0 by omega, if_pos (by decide)]
    simp only [dw_some, dR_r]
    exact ⟨h1, h2⟩
end E17
end
section
section E18
variable {α : Type} {μ : pxS} {P : dP} {B B1 B2 : dB} {Q : α → Prop}
theorem dV2_ne {t j q : Nat} (hj : j ≠ t) : (dV2 P B t).1 j q = B.1 j q := (dB.st_ne (Or.inl hj)).trans (dVo_ne (Or.inl hj))
theorem dU_mv {L : Nat} (h : dM μ P B) (hP : dWP P) (hK : dWK P) (hB : dSV P L B) (hL : L < 800000) (hk : dK P B) (ht : B.2.2.2.1 < 100000) : dw (px_it (Mo_tickGoes_L26) px_N (0, μ)) (fun τ => dM τ P (dMV2 P B) ∧ dG3 μ τ ∧ dSV P (L + 12) (dMV2 P B) ∧ dK P (dMV2 P B) ∧ (dMV2 P B).2.2.2.1 = B.2.2.2.1 ∧ ∀ i, i < P.1 → τ (1, 34, 0) i = (dMV2 P B).1 i 4) := by
  have hn := hP.n
  refine dw_up P.1 (by unfold px_N; omega) (fun t s => s.1 = dn t ∧ dM s.2 P (dFo (dV2 P) t B) ∧ dG3 μ s.2 ∧ dSV P (L + t) (dFo (dV2 P) t B) ∧ dK P (dFo (dV2 P) t B) ∧ (dFo (dV2 P) t B).2.2.2.1 = B.2.2.2.1 ∧ ∀ i, i < t → s.2 (1, 34, 0) i = (dFo (dV2 P) t B).1 i 4) (fun t s ht' hI => ?_) (fun s hI => ?_) (Nat.zero_le _) ⟨rfl, h, dG3_refl μ, hB, hk, rfl, fun i hi => absurd hi (by omega)⟩
  · obtain ⟨v, τ⟩ := s
    obtain ⟨rfl, h1, h2, h3, h4, h5, h6⟩ := hI
    dsimp only at h1 h2 h6
    show dw (Mo_tickGoes_n26 τ (dn t)) (dR (fun s => s.1 = dn (t + 1) ∧ dM s.2 P (dV2 P (dFo (dV2 P) t B) t) ∧ dG3 μ s.2 ∧ dSV P (L + (t + 1)) (dV2 P (dFo (dV2 P) t B) t) ∧ dK P (dV2 P (dFo (dV2 P) t B) t) ∧ (dV2 P (dFo (dV2 P) t B) t).2.2.2.1 = B.2.2.2.1 ∧ ∀ i, i < t + 1 → s.2 (1, 34, 0) i = (dV2 P (dFo (dV2 P) t B) t).1 i 4) _)
    generalize dFo (dV2 P) t B = B1 at h1 h3 h4 h5 h6
    unfold Mo_tickGoes_n26
    refine dw_v (dM_n h1) ?_
    rw [if_neg (by rw [dn_le (by omega) (by omega)]; omega), dw_b1]
    refine dw_mono (dU_vo h1 hP hK h3 (by omega) h4 (by omega) ht') fun τ1 ⟨g1, g2, g3, g4⟩ => ?_
    simp only [dw_some, dR_l]
    refine ⟨dn_suc t, g1, dG3_trans h2 g4, dSV_st (dSV_vo h3) (by omega), dK_st (dK_vo hn hK h4 (by omega) ht') (by simp), dVo_tk.trans h5, fun i hi => ?_⟩
    by_cases e : i = t
    · subst e; exact g2
    · rw [g3 i e, h6 i (by omega), dV2_ne e]
  · obtain ⟨v, τ⟩ := s
    obtain ⟨rfl, h1, h2, h3, h4, h5, h6⟩ := hI
    dsimp only at h1 h2 h6
    show dw (Mo_tickGoes_n26 τ (dn P.1)) _
    unfold Mo_tickGoes_n26
    refine dw_v (dM_n h1) ?_
    rw [if_pos (by rw [dn_le (by omega) (by omega)]; omega)]
    simp only [dw_some, dR_r]
    exact ⟨h1, h2, dSV_le h3 (by omega), h4, h5, h6⟩
theorem dSV_tl2 {L t : Nat} (h : dSV P L B) : dSV P (L + 2) (dTL21 P B t) := by
  unfold dTL21
  by_cases c : B.1 t 2 = 3 ∧ P.2.2.2 14 3 ≤ B.1 t 7 ∧ t ∉ B.2.2.1
  · rw [if_pos c]; exact dSV_trip h
  · rw [if_neg c]; exact dSV_le h (by omega)
theorem dU_tl {L : Nat} (h : dM μ P B) (hP : dWP P) (hH : dWH P) (hB : dSV P L B) (hL : L < 900000) : dw (px_it (Mo_tickGoes_L51) px_N (0, μ)) (fun τ => dM τ P (dTL2 P B) ∧ dG μ τ) := by
  have hn := hP.n
  have inv := dFo_inv (g := dTL21 P) (I := fun t B' => dSV P (L + 2 * t) B') (n := P.1) (B := B) hB (fun t B' _ h1 => dSV_tl2 h1)
  refine dw_up P.1 (by unfold px_N; omega) (fun t s => s.1 = dn t ∧ dM s.2 P (dFo (dTL21 P) t B) ∧ dG μ s.2) (fun t s ht hI => ?_) (fun s hI => ?_) (Nat.zero_le _) ⟨rfl, h, dG_refl μ⟩
  · obtain ⟨v, τ⟩ := s
    obtain ⟨rfl, h1, h2⟩ := hI
    dsimp only at h1 h2
    have hW := inv t (by omega)
    show dw (Mo_tickGoes_n51 τ (dn t)) (dR (fun s => s.1 = dn (t + 1) ∧ dM s.2 P (dTL21 P (dFo (dTL21 P) t B) t) ∧ dG μ s.2) _)
    generalize dFo (dTL21 P) t B = B1 at h1 hW
    have hll := hW.l
    unfold Mo_tickGoes_n51 Mo_tickGoes_n110
    refine dw_v (dM_n h1) ?_
    rw [if_neg (by rw [dn_le (by omega) (by omega)]; omega), show 13 * dn t + 8 = dn (13 * t + 8) from ix t 8, show 13 * dn t + 9 = dn (13 * t + 9) from ix t 9]
    have no : ∀ {QQ : pxS → Prop}, ¬ (B1.1 t 2 = 3 ∧ P.2.2.2 14 3 ≤ B1.1 t 7 ∧ t ∉ B1.2.2.1) → dw (some (.inl (dn t + 1, τ)) : Option ((Int32 × pxS) ⊕ pxS)) (dR (fun s => s.1 = dn (t + 1) ∧ dM s.2 P (dTL21 P B1 t) ∧ dG μ s.2) QQ) := fun c => by
      simp only [dw_some, dR_l]
      unfold dTL21
      rw [if_neg c]
      exact ⟨dn_suc t, h1, h2⟩
    refine dw_v (dM_state h1 hn ht) (dw_ite (fun c => ?_) (fun c => no fun z => c z.1))
    refine dw_gi (by omega) (by omega) ?_
    rw [show τ (1, 28, 0) (dn (13 * t + 9)).toNatClampNeg = B1.1 t 7 from by rw [dn_nat (by omega)]; exact h1.s.f t ht (7, 9) (by decide), h1.P.filter]
    refine dw_ite (fun c2 => no fun z => Int32.not_lt.mpr z.2.1 c2) (fun c2 => dw_gi (by omega) (by omega) ?_)
    rw [show τ (1, 28, 0) (dn (13 * t + 8)).toNatClampNeg = if t ∈ B1.2.2.1 then 1 else 0 from by rw [dn_nat (by omega)]; exact h1.s.ro t ht]
    by_cases c3 : t ∈ B1.2.2.1
    · rw [if_pos c3, if_neg (by decide)]
      exact no fun z => z.2.2 c3
    · rw [if_neg c3, if_pos rfl]
      refine du_T (dU_trip h1 hW.b hn hH ht c3 (Or.inr c) (by omega) hW.m) fun τ1 g1 f1 => ?_
      simp only [dw_some, dR_l]
      unfold dTL21
      rw [if_pos ⟨c, Int32.not_lt.mp c2, c3⟩]
      exact ⟨dn_suc t, g1, dG_trans h2 f1⟩
  · obtain ⟨v, τ⟩ := s
    obtain ⟨rfl, h1, h2⟩ := hI
    show dw (Mo_tickGoes_n51 τ (dn P.1)) _
    unfold Mo_tickGoes_n51
    refine dw_v (dM_n h1) ?_
    rw [if_pos (by rw [dn_le (by omega) (by omega)]; omega)]
    simp only [dw_some, dR_r]
    exact ⟨h1, h2⟩
/-- the row's first falls -/
theorem dU_lf {L : Nat} (h : dM μ P B) (hP : dWP P) (hB : dSV P L B) (hL : L < 990000) : dU μ P (Mo_tickGoes_n161 μ) (dLF B) := by
  have hn := hP.n
  have hwl := dL_len hB.b.w
  have hrl := dL_len hB.b.r
  have hll := hB.l
  unfold Mo_tickGoes_n161 dLF
  rw [h.s.rl]
  cases e : B.2.2.1 with
  | nil =>
    rw [if_pos (show dn [].length = 0 from rfl)]
    exact dU_some h
  | cons i l =>
    have h0 : 0 < B.2.2.1.length := by rw [e]; simp
    have hi : i < P.1 := hB.b.r.2 i (by rw [e]; simp)
    have e1 : μ (1, 28, 0) 170 = dn i := by
      have := h.s.ri 0 h0
      simp only [e, List.getElem_cons_zero] at this
      exact this
    dsimp only
    rw [← e, if_neg (by rw [show (0 : Int32) = dn 0 from rfl, dn_inj (by omega) (by omega)]; omega), e1, show 13 * dn i + 8 = dn (13 * i + 8) from ix i 8]
    refine dU_outr h hB.b hn hi fun μ1 h1 g1 => ?_
    have hdl : (dDrop B.2.2.1 i).length ≤ 12 := Nat.le_trans (List.length_filter_le _ _) (by omega)
    refine du_T (dU_state h1 hn hi) fun μ2 h2 g2 => ?_
    refine du_T (dU_logs h2 hn (by show B.2.2.2.2.2.2.2.2.length < _; omega) (by show B.2.1.length ≤ 12; omega) hdl) fun μ3 h3 g3 => ?_
    exact dw_some.mpr ⟨h3, dG_trans g1 (dG_trans g2 g3)⟩
/-- a tick of the reference -/
theorem dU_pass (h : dM μ P B) (hP : dWP P) (hS : dWS P) (hV : dWV P) (hH : dWH P) (hN : dWN P) (hK : dWK P) (hB : dSV P 700000 B) (hk : dK P B) (ht : B.2.2.2.1 < 99999) : dw (F_Mo_tickGoes μ) (fun τ => dM τ P (dPass P B) ∧ dG3 μ τ) := by
  have hn := hP.n
  unfold F_Mo_tickGoes dPass dB7
  rw [h.s.tick, dn_suc]
  refine du_bd (B.1, B.2.1, B.2.2.1, B.2.2.2.1 + 1, B.2.2.2.2.1, B.2.2.2.2.2.1, B.2.2.2.2.2.2.1, B.2.2.2.2.2.2.2.1, B.2.2.2.2.2.2.2.2) h hB.b hn (by omega) ⟨rfl, rfl, rfl, rfl⟩ rfl rfl rfl rfl rfl fun τ0 g0 f0 => ?_
  have v0 : dSV P 700000 (B.1, B.2.1, B.2.2.1, B.2.2.2.1 + 1, B.2.2.2.2.1, B.2.2.2.2.2.1, B.2.2.2.2.2.2.1, B.2.2.2.2.2.2.2.1, B.2.2.2.2.2.2.2.2) := dSV_md hB rfl rfl rfl rfl rfl rfl rfl
  have v1 := dSV_ca v0 hn
  have v2 := dSV_sq hS hn 25 v1
  have v3 := dSV_br v2 hn
  have v4 := dSV_mv v3 hn
  have v5 := dSV_mD v4
  have v6 := dSV_tL v5 hn
  have l0 := v0.l
  have t0 : ((B.1, B.2.1, B.2.2.1, B.2.2.2.1 + 1, B.2.2.2.2.1, B.2.2.2.2.2.1, B.2.2.2.2.2.2.1, B.2.2.2.2.2.2.2.1, B.2.2.2.2.2.2.2.2) : dB).2.2.2.1 < 100000 := by show B.2.2.2.1 + 1 < _; omega
  have k0 : dK P (B.1, B.2.1, B.2.2.1, B.2.2.2.1 + 1, B.2.2.2.2.1, B.2.2.2.2.2.1, B.2.2.2.2.2.2.1, B.2.2.2.2.2.2.2.1, B.2.2.2.2.2.2.2.2) := dK_md hk rfl rfl
  have k1 := dK_ca k0 t0 hn
  have t1 := dCA_tk (P := P) (B := (B.1, B.2.1, B.2.2.1, B.2.2.2.1 + 1, B.2.2.2.2.1, B.2.2.2.2.2.1, B.2.2.2.2.2.2.1, B.2.2.2.2.2.2.2.1, B.2.2.2.2.2.2.2.2))
  have tt1 := t0
  rw [← t1] at tt1
  obtain ⟨k2, t2⟩ := dK_sq (P := P) 25 k1 tt1
  have tt2 := tt1
  rw [← t2] at tt2
  obtain ⟨k3, t3⟩ := dK_br hn k2 v2.b tt2
  have tt3 := tt2
  rw [← t3] at tt3
  refine du_T (dU_ca g0 v0.b hn (by omega) (by show 1 ≤ B.2.2.2.1 + 1; omega) t0) fun τ1 g1 f1 => ?_
  refine du_T (dU_sq g1 hP hS hH v1 (by omega)) fun τ2 g2 f2 => ?_
  rw [dw_b1]
  refine dw_mono (dU_br g2 hP hV hN v2 (by omega)) fun τ3 ⟨g3, f3⟩ => ?_
  rw [dw_b1]
  refine dw_mono (dU_mv g3 hP hK v3 (by omega) k3 tt3) fun τ4 ⟨g4, f4, w4, k4, t4, r4⟩ => ?_
  refine du_T (dU_dr g4 hP hV w4.b r4) fun τ5 g5 f5 => ?_
  have w5 := dSV_mD w4
  rw [dMD_eq hV hn] at w5
  rw [dw_b1]
  refine dw_mono (dU_tl g5 hP hH w5 (by omega)) fun τ6 ⟨g6, f6⟩ => ?_
  rw [← dMD_eq hV hn, dTL_md hV] at g6
  have fr : dG3 μ τ6 := dG3_trans (dG3_of (dG_trans f0 (dG_trans f1 f2))) (dG3_trans f3 (dG3_trans f4 (dG3_of (dG_trans f5 f6))))
  clear f0 f1 f2 f3 f4 f5 f6
  rw [g6.s.total, g6.P.budget]
  generalize dTL P (dMD P (dMV P (dBR P (dSq P 25 (dCA P (B.1, B.2.1, B.2.2.1, B.2.2.2.1 + 1, B.2.2.2.2.1, B.2.2.2.2.2.1, B.2.2.2.2.2.2.1, B.2.2.2.2.2.2.2.1, B.2.2.2.2.2.2.2.2)))))) = B' at g6 v6
  by_cases c : B'.2.2.2.2.1 ≤ P.2.2.2 14 6
  · rw [if_pos c, if_pos c]
    exact dw_mono (dU_lf g6 hP v6 (by omega)) fun τ7 ⟨g7, f7⟩ => ⟨g7, dG3_trans fr (dG3_of f7)⟩
  · rw [if_neg c, if_neg c]
    refine dw_v (dM_n g6) (dw_v (dM_lat g6 hn) ?_)
    have hta := dSV_ta v6
    rw [show (1 <<< (dn P.1 &&& 31)) - 1 = dAll P.1 from rfl]
    cases e : dLat B' (dAll P.1) P.1 with
    | none =>
      have ea : dTA P B' = B' := by unfold dTA; rw [e]
      rw [ea, show dOp none = -1 from rfl, if_pos rfl]
      exact dw_mono (dU_lf g6 hP v6 (by omega)) fun τ7 ⟨g7, f7⟩ => ⟨g7, dG3_trans fr (dG3_of f7)⟩
    | some i =>
      have ea : dTA P B' = dTrip P B' i := by unfold dTA; rw [e]
      rw [ea] at hta ⊢
      obtain ⟨l1, l2⟩ := dLat_lt e
      have hl6 := v6.l
      rw [show dOp (some i) = dn i from rfl, if_neg (dn_m1 (by omega))]
      refine du_T (dU_trip g6 v6.b hn hH l1 l2.2.1 l2.2.2 (by omega) v6.m) fun τ7 g7 f7 => ?_
      exact dw_mono (dU_lf g7 hP hta (by omega)) fun τ8 ⟨g8, f8⟩ => ⟨g8, dG3_trans fr (dG3_of (dG_trans f7 f8))⟩
end E18
end
