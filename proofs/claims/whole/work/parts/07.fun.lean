/-! what a method does, as a function on numbers: the words of these functions, and rows in the form that a program lays -/
def px_b1 {α β : Type} (o : Option α) (f : α → Option β) : Option β := match o with
  | none => none
  | some a => f a
def px_b2 {α γ β : Type} (o : Option (α × γ)) (f : α → γ → Option β) : Option β := match o with
  | none => none
  | some a => f a.1 a.2
def px_l {α β : Type} (a : α) (f : α → Option β) : Option β := f a
def px_gd {β : Type} (j : Int32) (N : Nat) (A : Option β) : Option β := if ¬ j < 0 ∧ j.toNatClampNeg < N then A else none
def px_gz {β : Type} (j : Int32) (A : Option β) : Option β := if j = 0 then none else A
def px_gb {β : Type} (j : Int32) (A : Option β) : Option β := if j = 0 ∨ j = 1 then A else none
def px_it {S E : Type} (f : S → Option (S ⊕ E)) : Nat → S → Option E
  | 0, _ => none
  | n + 1, s => match f s with
    | none => none
    | some (.inl s') => px_it f n s'
    | some (.inr e) => some e
def px_N : Nat := 100000
theorem px_b1_e {α β : Type} {o : Option α} {f : α → Option β} {r : β} (h : px_b1 o f = some r) : ∃ a, o = some a ∧ f a = some r := by
  cases o with
  | none => cases h
  | some a => exact ⟨a, rfl, h⟩
theorem px_b2_e {α γ β : Type} {o : Option (α × γ)} {f : α → γ → Option β} {r : β} (h : px_b2 o f = some r) : ∃ a b, o = some (a, b) ∧ f a b = some r := by
  cases o with
  | none => cases h
  | some a => exact ⟨a.1, a.2, rfl, h⟩
theorem px_l_e {α β : Type} {a : α} {f : α → Option β} {r : β} (h : px_l a f = some r) : ∃ s, s = a ∧ f s = some r := ⟨a, rfl, h⟩
theorem px_ite {β : Type} {c : Prop} {_ : Decidable c} {A B : Option β} {r : β} (h : (if c then A else B) = some r) : (c ∧ A = some r) ∨ (¬ c ∧ B = some r) := by
  by_cases hc : c
  · rw [if_pos hc] at h
    exact Or.inl ⟨hc, h⟩
  · rw [if_neg hc] at h
    exact Or.inr ⟨hc, h⟩
theorem px_gd_e {β : Type} {j : Int32} {N : Nat} {A : Option β} {r : β} (h : px_gd j N A = some r) : vp_in j N ∧ A = some r := by
  unfold px_gd at h
  rcases px_ite h with ⟨h1, h2⟩ | ⟨_, h2⟩
  · refine ⟨fun q => ?_, h2⟩
    rcases q with q | q
    · exact h1.1 q
    · omega
  · cases h2
theorem px_gz_e {β : Type} {j : Int32} {A : Option β} {r : β} (h : px_gz j A = some r) : ¬ j = 0 ∧ A = some r := by
  unfold px_gz at h
  rcases px_ite h with ⟨_, h2⟩ | ⟨h1, h2⟩
  · cases h2
  · exact ⟨h1, h2⟩
theorem px_gb_e {β : Type} {j : Int32} {A : Option β} {r : β} (h : px_gb j A = some r) : (j = 0 ∨ j = 1) ∧ A = some r := by
  unfold px_gb at h
  rcases px_ite h with ⟨h1, h2⟩ | ⟨_, h2⟩
  · exact ⟨h1, h2⟩
  · cases h2
theorem px_inL {j : Int32} {N q : Nat} (h1 : ¬ j < 0) (h2 : j.toNatClampNeg = q) (h3 : q < N) : vp_in j N := fun z => by
  rcases z with z | z
  · exact h1 z
  · omega
/-- a loop: if each round takes 'C s' back to 'C' of the next state, and its end back to what holds behind it -/
theorem px_it_rule {S E : Type} {f : S → Option (S ⊕ E)} {C : S → Prop} {X : E → Prop} (hc : ∀ s s', f s = some (.inl s') → C s' → C s) (hx : ∀ s e, f s = some (.inr e) → X e → C s) : ∀ (n : Nat) (s : S) (e : E), px_it f n s = some e → X e → C s := by
  intro n
  induction n with
  | zero => intro s e h; cases h
  | succ n ih =>
    intro s e h hX
    unfold px_it at h
    cases hf : f s with
    | none => rw [hf] at h; cases h
    | some o =>
      rw [hf] at h
      cases o with
      | inl s' => exact hc s s' hf (ih s' e h hX)
      | inr e1 =>
        have he : e1 = e := Option.some.inj h
        subst he
        exact hx s e1 hf hX
theorem px_at {cc : ByteArray} {tb : List (Nat × Instr × Nat)} (h : ∀ q ∈ tb, decode cc q.1 = .ok q.2) (i : Nat) {pc len : Nat} {ins : Instr} (e : tb[i]? = some (pc, ins, len)) : decode cc pc = .ok (ins, len) := by
  have h1 := h (pc, ins, len) (List.mem_of_getElem? e)
  dsimp only at h1
  exact h1
theorem px_w (i : Nat) {w : Cond} (e : lw_tbl[i]? = some w) (h : goodWord w = true) : w ∈ pxW := List.mem_filter.mpr ⟨List.mem_of_getElem? e, h⟩
abbrev px_R (d : Nat) : Room := { frames := d, cells := 0, slots := 0, locals := 40 * d }
section PXQ
variable {l : Launch} {R : Room} {y : MethodName} {cc : ByteArray} {nL : Nat} {ret : Option FieldType} {pc : Nat} {L : List (Nat × pxV)} {st : List pxV} {ids : List pxI} {G : pxG} {σ : pxS} {k n : Nat} {Rt : Option pxV → List pxI → pxG → pxS → Prop}
theorem pw_s {σ' : pxS} (e : σ' = σ) (h : pw l R y cc nL ret pc L st ids G σ' k n Rt) : pw l R y cc nL ret pc L st ids G σ k n Rt := e ▸ h
theorem pw_ial {i : pxI} {j : Int32} {N q : Nat} (hd : decode cc pc = .ok (.iaload, 1)) (hG : G i = .inl (0, N)) (hin : vp_in j N) (e : j.toNatClampNeg = q)
    (h : pw l R y cc nL ret (pc + 1) L (.inl (σ i q) :: st) ids G σ k n Rt) : pw l R y cc nL ret pc L (.inl j :: .inr (some i) :: st) ids G σ k n Rt := by
  subst e
  exact pw_iald hd hG hin h
theorem pw_bal {i : pxI} {j : Int32} {N q : Nat} (hd : decode cc pc = .ok (.baload, 1)) (hG : G i = .inl (1, N)) (hin : vp_in j N) (e : j.toNatClampNeg = q)
    (h : pw l R y cc nL ret (pc + 1) L (.inl (σ i q) :: st) ids G σ k n Rt) : pw l R y cc nL ret pc L (.inl j :: .inr (some i) :: st) ids G σ k n Rt := by
  subst e
  exact pw_bald hd hG hin h
theorem pw_zal {i : pxI} {j : Int32} {N q : Nat} (hd : decode cc pc = .ok (.baload, 1)) (hG : G i = .inl (2, N)) (hin : vp_in j N) (e : j.toNatClampNeg = q)
    (h : pw l R y cc nL ret (pc + 1) L (.inl (σ i q) :: st) ids G σ k n Rt) : pw l R y cc nL ret pc L (.inl j :: .inr (some i) :: st) ids G σ k n Rt := by
  subst e
  exact pw_zald hd hG hin h
theorem pw_ias {i : pxI} {j x : Int32} {N q : Nat} {σ' : pxS} (hd : decode cc pc = .ok (.iastore, 1)) (hG : G i = .inl (0, N)) (hin : vp_in j N) (e : j.toNatClampNeg = q) (hs : σ' = px_up σ i q x)
    (h : pw l R y cc nL ret (pc + 1) L st ids G σ' k n Rt) : pw l R y cc nL ret pc L (.inl x :: .inl j :: .inr (some i) :: st) ids G σ k n Rt := by
  subst e
  exact pw_iast hd hG hin (pw_s hs h)
theorem pw_bas {i : pxI} {j x : Int32} {N q : Nat} {σ' : pxS} (hd : decode cc pc = .ok (.bastore, 1)) (hG : G i = .inl (1, N)) (hin : vp_in j N) (e : j.toNatClampNeg = q) (hs : σ' = px_up σ i q (vp_nar .byte x))
    (h : pw l R y cc nL ret (pc + 1) L st ids G σ' k n Rt) : pw l R y cc nL ret pc L (.inl x :: .inl j :: .inr (some i) :: st) ids G σ k n Rt := by
  subst e
  exact pw_bast hd hG hin (pw_s hs h)
theorem pw_zas {i : pxI} {j x : Int32} {N q : Nat} {σ' : pxS} (hd : decode cc pc = .ok (.bastore, 1)) (hG : G i = .inl (2, N)) (hin : vp_in j N) (e : j.toNatClampNeg = q) (hs : σ' = px_up σ i q (vp_nar .boolean x))
    (h : pw l R y cc nL ret (pc + 1) L st ids G σ' k n Rt) : pw l R y cc nL ret pc L (.inl x :: .inl j :: .inr (some i) :: st) ids G σ k n Rt := by
  subst e
  exact pw_zast hd hG hin (pw_s hs h)
/-- behind a call of one end: with a value, without -/
theorem px_k1 {r : Int32} {ids2 : List pxI} {G2 : pxG} {σ2 : pxS} {k' n' pc' : Nat} {L' : List (Nat × pxV)} (h : pw l R y cc nL ret pc' L' (.inl r :: st) ids2 G2 σ2 k' n' Rt) : ∀ (v' : Option pxV) (ids' : List pxI) (G' : pxG) (σ' : pxS), px_r (some (.inl r)) ids2 G2 σ2 v' ids' G' σ' → (∀ i ∈ ids, i ∈ ids') → pw l R y cc nL ret pc' L' (v'.toList ++ st) ids' G' σ' k' n' Rt := by
  rintro v' ids' G' σ' ⟨rfl, rfl, rfl, rfl⟩ _
  exact h
theorem px_k0 {ids2 : List pxI} {G2 : pxG} {σ2 : pxS} {k' n' pc' : Nat} {L' : List (Nat × pxV)} (h : pw l R y cc nL ret pc' L' st ids2 G2 σ2 k' n' Rt) : ∀ (v' : Option pxV) (ids' : List pxI) (G' : pxG) (σ' : pxS), px_r none ids2 G2 σ2 v' ids' G' σ' → (∀ i ∈ ids, i ∈ ids') → pw l R y cc nL ret pc' L' (v'.toList ++ st) ids' G' σ' k' n' Rt := by
  rintro v' ids' G' σ' ⟨rfl, rfl, rfl, rfl⟩ _
  exact h
theorem px_look2 {a b : Int} {dflt off : Int} {x : Int32} (h : (x = 0 ∧ off = a) ∨ (x = 1 ∧ off = b) ∨ (¬ x = 0 ∧ ¬ x = 1 ∧ off = dflt)) : Op.lookupswitch.offset (#[(0, a), (1, b)] : Array (Int × Int)).toList dflt x.toInt = off := by
  rcases h with ⟨rfl, rfl⟩ | ⟨rfl, rfl⟩ | ⟨h0, h1, rfl⟩
  · rfl
  · rfl
  · have e0 : ¬ x.toInt = 0 := fun e => h0 (Int32.toInt_inj.mp (e.trans (by decide)))
    have e1 : ¬ x.toInt = 1 := fun e => h1 (Int32.toInt_inj.mp (e.trans (by decide)))
    have e0' : ¬ 0 = x.toInt := fun e => e0 e.symm
    have e1' : ¬ 1 = x.toInt := fun e => e1 e.symm
    simp [Op.lookupswitch.offset, e0', e1', e0, e1]
end PXQ
