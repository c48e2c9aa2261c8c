section
/-! orders: what the greatest heat of one must be -/
def hAdd (D : Nat → Bool) (r : Nat) : Nat → Bool := fun o => D o || decide (o = r)
def hRem (S : Nat → Bool) (r : Nat) : Nat → Bool := fun o => S o && !decide (o = r)
def hSum (ld : Nat → Nat) (n : Nat) (D : Nat → Bool) : Nat := nS (fun o => if D o = true then ld o else 0) n
section G6
variable {dir : Nat → Nat → Bool} {ld sg : Nat → Nat} {n : Nat} {D D' S : Nat → Bool} {l : List Nat} {h g r : Nat}
def hOk (dir : Nat → Nat → Bool) (ld sg : Nat → Nat) (n : Nat) : (Nat → Bool) → List Nat → Nat → Prop
  | _, [], _ => True
  | D, r :: l, h => r < n ∧ (∀ o, dir r o = true → D o = true) ∧ hSum ld n D + ld r + sg r ≤ h ∧ hOk dir ld sg n (hAdd D r) l h
def hFe (dir : Nat → Nat → Bool) (ld sg : Nat → Nat) (n : Nat) (D S : Nat → Bool) (h : Nat) : Prop := ∃ l : List Nat, l.Nodup ∧ (∀ x, x ∈ l ↔ S x = true) ∧ hOk dir ld sg n D l h
theorem nS_le {b b' : Nat → Nat} : ∀ m, (∀ j, j < m → b j ≤ b' j) → nS b m ≤ nS b' m := by
  intro m
  induction m with
  | zero => intro _; exact Nat.le_refl _
  | succ m ih =>
    intro h
    show nS b m + b m ≤ nS b' m + b' m
    have := ih fun j hj => h j (by omega)
    have := h m (by omega)
    omega
theorem hSum_le (h : ∀ o, o < n → D o = true → D' o = true) : hSum ld n D ≤ hSum ld n D' := nS_le n fun j hj => by
  by_cases c : D j = true
  · rw [if_pos c, if_pos (h j hj c)]; omega
  · rw [if_neg c]; omega
theorem hSum_c (h : ∀ o, o < n → D o = D' o) : hSum ld n D = hSum ld n D' := nS_c n fun j hj => by rw [h j hj]
theorem hSum_add (hr : r < n) (hD : D r = false) : hSum ld n (hAdd D r) = hSum ld n D + ld r := by
  have := nS_up (b := fun o => if D o = true then ld o else 0) (p := r) (x := ld r) n hr
  rw [hSum, hSum, ← this]
  refine nS_c n fun j hj => ?_
  unfold hAdd
  by_cases e : j = r
  · subst e
    simp [hD]
  · simp [e]
theorem hSum_add_le : hSum ld n (hAdd D r) ≤ hSum ld n D + ld r := by
  by_cases hr : r < n
  · cases e : D r with
    | false => rw [hSum_add hr e]; omega
    | true =>
      have : hSum ld n (hAdd D r) = hSum ld n D := hSum_c fun o _ => by
        unfold hAdd
        by_cases z : o = r
        · rw [z, e]; rfl
        · simp [z]
      omega
  · have : hSum ld n (hAdd D r) = hSum ld n D := hSum_c fun o ho => by
      unfold hAdd
      have : ¬ o = r := by omega
      simp [this]
    omega
theorem hOk_mono {h' : Nat} (hh : h ≤ h') : ∀ (l : List Nat) (D : Nat → Bool), hOk dir ld sg n D l h → hOk dir ld sg n D l h' := by
  intro l
  induction l with
  | nil => intro _ _; trivial
  | cons r l ih => intro D ⟨a, b, c, d⟩; exact ⟨a, b, by omega, ih _ d⟩
theorem hOk_D : ∀ (l : List Nat) (D D' : Nat → Bool), (∀ o, D o = D' o) → hOk dir ld sg n D l h → hOk dir ld sg n D' l h := by
  intro l
  induction l with
  | nil => intro _ _ _ _; trivial
  | cons r l ih =>
    intro D D' e ⟨a, b, c, d⟩
    have : D = D' := funext e
    rw [← this]
    exact ⟨a, b, c, d⟩
theorem hOk_rem : ∀ (l : List Nat) (D D' : Nat → Bool), hOk dir ld sg n D l h → (∀ j ∈ l, dir j g = false) → (∀ o, D' o = true → D o = true) → (∀ o, o ≠ g → D o = true → D' o = true) → hOk dir ld sg n D' (l.filter fun x => x ≠ g) h := by
  intro l
  induction l with
  | nil => intro _ _ _ _ _ _; trivial
  | cons r l ih =>
    intro D D' ⟨a, b, c, d⟩ hs h1 h2
    have hs' : ∀ j ∈ l, dir j g = false := fun j hj => hs j (List.mem_cons_of_mem _ hj)
    by_cases e : r = g
    · subst e
      rw [List.filter_cons, if_neg (by simp)]
      refine ih _ D' d hs' (fun o ho => by unfold hAdd; rw [h1 o ho]; rfl) fun o ho z => h2 o ho ?_
      unfold hAdd at z
      simpa [ho] using z
    · rw [List.filter_cons, if_pos (by simp [e])]
      refine ⟨a, fun o ho => h2 o (fun z => ?_) (b o ho), ?_, ih _ _ d hs' (fun o ho => ?_) fun o hg ho => ?_⟩
      · rw [z, hs r List.mem_cons_self] at ho; exact absurd ho (by decide)
      · have := hSum_le (ld := ld) (n := n) (D := D') (D' := D) fun o _ z => h1 o z
        omega
      · unfold hAdd at ho ⊢
        rw [Bool.or_eq_true] at ho ⊢
        exact ho.imp (h1 o) id
      · unfold hAdd at ho ⊢
        rw [Bool.or_eq_true] at ho ⊢
        exact ho.imp (h2 o hg) id
def lSum (ld : Nat → Nat) : List Nat → Nat
  | [] => 0
  | r :: l => ld r + lSum ld l
theorem hOk_app : ∀ (l : List Nat) (D : Nat → Bool), hOk dir ld sg n D l h → g < n → (∀ o, dir g o = true → D o = true ∨ o ∈ l) → hSum ld n D + lSum ld l + ld g + sg g ≤ h → hOk dir ld sg n D (l ++ [g]) h := by
  intro l
  induction l with
  | nil =>
    intro D _ hg hd hs
    have e : lSum ld [] = 0 := rfl
    exact ⟨hg, fun o ho => (hd o ho).elim id fun z => absurd z (by simp), by omega, trivial⟩
  | cons r l ih =>
    intro D ⟨a, b, c, d⟩ hg hd hs
    have e : lSum ld (r :: l) = ld r + lSum ld l := rfl
    refine ⟨a, b, c, ih _ d hg (fun o ho => ?_) ?_⟩
    · rcases hd o ho with z | z
      · left; unfold hAdd; rw [z]; rfl
      · rcases List.mem_cons.mp z with rfl | z
        · left; unfold hAdd; simp
        · exact Or.inr z
    · have := hSum_add_le (ld := ld) (n := n) (D := D) (r := r)
      omega
theorem hOk_last : ∀ (l : List Nat) (D : Nat → Bool), hOk dir ld sg n D l h → l ≠ [] → l.Nodup → (∀ x ∈ l, D x = false) → ∃ x ∈ l, (∀ j ∈ l, dir j x = false) ∧ hSum ld n D + lSum ld l + sg x ≤ h := by
  intro l
  induction l with
  | nil => intro _ _ z; exact absurd rfl z
  | cons r l ih =>
    intro D ⟨a, b, c, d⟩ _ hnd hD
    have hr := hD r List.mem_cons_self
    have hrn := (List.nodup_cons.mp hnd).1
    have e : lSum ld (r :: l) = ld r + lSum ld l := rfl
    have hno : ∀ x, D x = false → dir r x = false := fun x hx => by
      cases z : dir r x with
      | false => rfl
      | true => rw [b x z] at hx; exact absurd hx (by decide)
    by_cases hl : l = []
    · subst hl
      have e0 : lSum ld [] = 0 := rfl
      refine ⟨r, List.mem_cons_self, fun j hj => ?_, by omega⟩
      simp at hj
      rw [hj]; exact hno r hr
    · obtain ⟨x, x1, x2, x3⟩ := ih (hAdd D r) d hl (List.nodup_cons.mp hnd).2 fun x hx => by
        have : ¬ x = r := fun z => hrn (z ▸ hx)
        unfold hAdd
        rw [hD x (List.mem_cons_of_mem _ hx)]
        simp [this]
      rw [hSum_add a hr] at x3
      refine ⟨x, List.mem_cons_of_mem _ x1, fun j hj => ?_, by omega⟩
      rcases List.mem_cons.mp hj with rfl | hj
      · exact hno x (hD x (List.mem_cons_of_mem _ x1))
      · exact x2 j hj
theorem lSum_h : ∀ (l : List Nat) (S : Nat → Bool), l.Nodup → (∀ x, x ∈ l ↔ S x = true) → (∀ x, S x = true → x < n) → lSum ld l = hSum ld n S := by
  intro l
  induction l with
  | nil =>
    intro S _ hS _
    have : hSum ld n S = hSum ld n (fun _ => false) := hSum_c fun o _ => by
      cases e : S o with
      | false => rfl
      | true => exact absurd ((hS o).mpr e) (by simp)
    rw [this]
    have z : ∀ m, nS (fun o => if (fun _ : Nat => false) o = true then ld o else 0) m = 0 := by
      intro m
      induction m with
      | zero => rfl
      | succ m ih => show nS _ m + 0 = 0; rw [ih]
    exact (z n).symm
  | cons r l ih =>
    intro S hnd hS hn
    have hrn := (List.nodup_cons.mp hnd).1
    have hr := (hS r).mp List.mem_cons_self
    have h1 := ih (hRem S r) (List.nodup_cons.mp hnd).2 (fun x => by
      unfold hRem
      by_cases e : x = r
      · subst e; simp [hrn]
      · have := hS x
        simp only [List.mem_cons, e, false_or] at this
        rw [this]; simp [e]) fun x hx => hn x (by
      unfold hRem at hx
      rw [Bool.and_eq_true] at hx
      exact hx.1)
    show ld r + lSum ld l = _
    rw [h1]
    have e2 : hSum ld n S = hSum ld n (hAdd (hRem S r) r) := hSum_c fun o _ => by
      unfold hAdd hRem
      by_cases e : o = r
      · subst e; simp [hr]
      · simp [e]
    rw [e2, hSum_add (hn r hr) (by unfold hRem; simp)]
    omega
theorem hOk_in : ∀ (l : List Nat) (D : Nat → Bool), hOk dir ld sg n D l h → ∀ i ∈ l, i < n ∧ hSum ld n D + ld i + sg i ≤ h := by
  intro l
  induction l with
  | nil => intro _ _ i hi; exact absurd hi (by simp)
  | cons r l ih =>
    intro D ⟨a, b, c, d⟩ i hi
    rcases List.mem_cons.mp hi with rfl | hi
    · exact ⟨a, c⟩
    · have h1 := ih _ d i hi
      have := hSum_le (ld := ld) (n := n) (D := D) (D' := hAdd D r) fun o _ z => by unfold hAdd; rw [z]; rfl
      exact ⟨h1.1, by omega⟩
theorem hOk_first {i : Nat} : ∀ (l : List Nat) (D : Nat → Bool), hOk dir ld sg n D l h → l.Nodup → hOk dir ld sg n (hAdd D i) (l.filter fun x => x ≠ i) (h + ld i) := by
  intro l
  induction l with
  | nil => intro _ _ _; trivial
  | cons r l ih =>
    intro D ⟨a, b, c, d⟩ hnd
    have hrn := (List.nodup_cons.mp hnd).1
    by_cases e : r = i
    · subst e
      rw [List.filter_cons, if_neg (by simp), List.filter_eq_self.mpr (fun x hx => by simp; exact fun z => hrn (z ▸ hx))]
      exact hOk_mono (Nat.le_add_right _ _) l _ d
    · rw [List.filter_cons, if_pos (by simp [e])]
      have := hSum_add_le (ld := ld) (n := n) (D := D) (r := i)
      refine ⟨a, fun o ho => by unfold hAdd; rw [b o ho]; rfl, by omega, ?_⟩
      refine hOk_D _ _ _ (fun o => ?_) (ih _ d (List.nodup_cons.mp hnd).2)
      unfold hAdd
      rw [Bool.or_assoc, Bool.or_assoc, Bool.or_comm (decide (o = r))]
/-! of sets -/
theorem hFe_c {D' S' : Nat → Bool} (hD : ∀ o, D o = D' o) (hS : ∀ o, S o = S' o) (z : hFe dir ld sg n D S h) : hFe dir ld sg n D' S' h := by
  have e1 : D = D' := funext hD
  have e2 : S = S' := funext hS
  rw [← e1, ← e2]; exact z
theorem hFe_0 (hS : ∀ x, S x = false) : hFe dir ld sg n D S h := ⟨[], by simp, fun x => by simp [hS x], trivial⟩
theorem hFe_mono {h' : Nat} (hh : h ≤ h') (z : hFe dir ld sg n D S h) : hFe dir ld sg n D S h' := by
  obtain ⟨l, a, b, c⟩ := z
  exact ⟨l, a, b, hOk_mono hh l D c⟩
theorem hFe_last (hn : ∀ x, S x = true → x < n) (hd : ∀ x, S x = true → D x = false) (hne : ∃ x, S x = true) (z : hFe dir ld sg n D S h) : ∃ x, S x = true ∧ (∀ j, S j = true → dir j x = false) ∧ hSum ld n D + hSum ld n S + sg x ≤ h := by
  obtain ⟨l, a, b, c⟩ := z
  obtain ⟨y, hy⟩ := hne
  have hl : l ≠ [] := fun e => by
    have := (b y).mpr hy
    rw [e] at this; simp at this
  obtain ⟨x, x1, x2, x3⟩ := hOk_last l D c hl a fun x hx => hd x ((b x).mp hx)
  rw [lSum_h l S a b hn] at x3
  exact ⟨x, (b x).mp x1, fun j hj => x2 j ((b j).mpr hj), x3⟩
theorem mem_fil {l : List Nat} {S : Nat → Bool} (b : ∀ x, x ∈ l ↔ S x = true) (x : Nat) : x ∈ l.filter (fun x => x ≠ g) ↔ hRem S g x = true := by
  rw [List.mem_filter, b x]
  unfold hRem
  simp
theorem hFe_rem (hs : ∀ j, S j = true → dir j g = false) (z : hFe dir ld sg n D S h) : hFe dir ld sg n D (hRem S g) h := by
  obtain ⟨l, a, b, c⟩ := z
  exact ⟨l.filter fun x => x ≠ g, a.filter _, mem_fil b, hOk_rem l D D c (fun j hj => hs j ((b j).mp hj)) (fun _ => id) fun _ _ => id⟩
theorem hFe_app (hn : ∀ x, S x = true → x < n) (hg : S g = true) (hgg : dir g g = false) (hc : ∀ o, dir g o = true → D o = true ∨ S o = true) (hh : hSum ld n D + hSum ld n S + sg g ≤ h) (z : hFe dir ld sg n D (hRem S g) h) : hFe dir ld sg n D S h := by
  obtain ⟨l, a, b, c⟩ := z
  have hng : g ∉ l := fun y => by
    have := (b g).mp y
    unfold hRem at this
    simp at this
  have hS : ∀ x, x ∈ l ++ [g] ↔ S x = true := fun x => by
    rw [List.mem_append, b x]
    unfold hRem
    by_cases e : x = g
    · subst e; simp [hg]
    · simp [e]
  have hnd : (l ++ [g]).Nodup := by
    rw [List.nodup_append]
    refine ⟨a, by simp, fun x hx y hy => ?_⟩
    simp at hy
    subst hy
    exact fun e => hng (e ▸ hx)
  have e1 : lSum ld l = hSum ld n (hRem S g) := lSum_h l _ a b fun x hx => hn x (by
    unfold hRem at hx
    rw [Bool.and_eq_true] at hx
    exact hx.1)
  have e2 : hSum ld n S = hSum ld n (hRem S g) + ld g := by
    rw [← hSum_add (hn g hg) (show hRem S g g = false by unfold hRem; simp)]
    refine hSum_c fun o _ => ?_
    unfold hAdd hRem
    by_cases e : o = g
    · subst e; simp [hg]
    · simp [e]
  refine ⟨l ++ [g], hnd, hS, hOk_app l D c (hn g hg) (fun o ho => ?_) (by omega)⟩
  rcases hc o ho with y | y
  · exact Or.inl y
  · right
    rw [b o]
    unfold hRem
    have : ¬ o = g := fun e => by rw [e, hgg] at ho; exact absurd ho (by decide)
    simp [y, this]
/-- the first one -/
theorem hFe_head (hne : ∃ x, S x = true) : hFe dir ld sg n D S h ↔ ∃ r, S r = true ∧ r < n ∧ (∀ o, dir r o = true → D o = true) ∧ hSum ld n D + ld r + sg r ≤ h ∧ hFe dir ld sg n (hAdd D r) (hRem S r) h := by
  constructor
  · intro ⟨l, a, b, c⟩
    obtain ⟨y, hy⟩ := hne
    cases l with
    | nil => have := (b y).mpr hy; simp at this
    | cons r l =>
      obtain ⟨c1, c2, c3, c4⟩ := c
      refine ⟨r, (b r).mp List.mem_cons_self, c1, c2, c3, l, (List.nodup_cons.mp a).2, fun x => ?_, c4⟩
      have hrn := (List.nodup_cons.mp a).1
      unfold hRem
      by_cases e : x = r
      · subst e; simp [hrn]
      · have := b x
        simp only [List.mem_cons, e, false_or] at this
        rw [this]; simp [e]
  · intro ⟨r, r1, r2, r3, r4, l, a, b, c⟩
    refine ⟨r :: l, ?_, fun x => ?_, r2, r3, r4, c⟩
    · rw [List.nodup_cons]
      refine ⟨fun y => ?_, a⟩
      have := (b r).mp y
      unfold hRem at this
      simp at this
    · rw [List.mem_cons, b x]
      unfold hRem
      by_cases e : x = r
      · subst e; simp [r1]
      · simp [e]
theorem hFe_in {i : Nat} (hi : S i = true) (z : hFe dir ld sg n D S h) : hSum ld n D + ld i + sg i ≤ h := by
  obtain ⟨l, a, b, c⟩ := z
  exact (hOk_in l D c i ((b i).mpr hi)).2
theorem hFe_first {i : Nat} (z : hFe dir ld sg n D S h) : hFe dir ld sg n (hAdd D i) (hRem S i) (h + ld i) := by
  obtain ⟨l, a, b, c⟩ := z
  exact ⟨l.filter fun x => x ≠ i, a.filter _, mem_fil b, hOk_first l D c a⟩
end G6
end
section
/-! the class: the least heat -/
def dLd (B : dB) (o : Nat) : Nat := dv (B.1 o 0)
def dSg (P : dP) (o : Nat) : Nat := dv (P.2.2.2 4 o * (if P.2.2.2 2 o < P.2.2.2 3 o then P.2.2.2 2 o else P.2.2.2 3 o) / 16)
def dDi (P : dP) (r o : Nat) : Bool := db (P.2.2.2 8 r) o
def dFe (P : dP) (B : dB) (D S : Nat → Bool) (h : Nat) : Prop := hFe (dDi P) (dLd B) (dSg P) P.1 D S h
def dHs (P : dP) (B : dB) (D : Nat → Bool) : Nat := hSum (dLd B) P.1 D
def dRest (P : dP) (x : Int32) (o : Nat) : Bool := decide (o < P.1) && !db x o
section G7
variable {σ σ' μ μ' : pxS} {P : dP} {k p f g : Nat} {B B' : dB} {I : Option dB} {H : List dB}
theorem dLd_b {o : Nat} (h : dK P B) (ho : o < P.1) : dLd B o ≤ 9999 ∧ B.1 o 0 = dn (dLd B o) := by
  obtain ⟨a, a1, a2⟩ := (h.r o ho).l
  unfold dLd
  rw [a2, dv_dn (by omega)]
  exact ⟨a1, rfl⟩
theorem dSg_b {o : Nat} (hV : dWV P) (hK : dWK P) (ho : o < P.1) : dSg P o ≤ 61868 ∧ P.2.2.2 4 o * (if P.2.2.2 2 o < P.2.2.2 3 o then P.2.2.2 2 o else P.2.2.2 3 o) / 16 = dn (dSg P o) := by
  obtain ⟨l1, l2⟩ := hV.lv o ho
  obtain ⟨l, l3, l4⟩ := dn_ex (N := 9999) (show 0 ≤ (P.2.2.2 2 o).toInt by omega) l2
  obtain ⟨r, r1, r2, r3⟩ := hK.rp o ho
  obtain ⟨c, c1, c2⟩ := hK.ch o ho
  have e : (if P.2.2.2 2 o < P.2.2.2 3 o then P.2.2.2 2 o else P.2.2.2 3 o) = dn (min l r) := by
    rw [l4, r3]
    by_cases z : l < r
    · rw [if_pos (by rw [dn_lt (by omega) (by omega)]; exact z), show min l r = l by omega]
    · rw [if_neg (by rw [dn_lt (by omega) (by omega)]; exact z), show min l r = r by omega]
  have h1 : c * min l r ≤ 99 * 9999 := Nat.mul_le_mul c1 (by omega)
  have e2 : P.2.2.2 4 o * (if P.2.2.2 2 o < P.2.2.2 3 o then P.2.2.2 2 o else P.2.2.2 3 o) / 16 = dn (c * min l r / 16) := by
    rw [e, c2, dn_mul, show (16 : Int32) = dn 16 from rfl, dn_div (by omega) (by omega)]
  have e3 : dSg P o = c * min l r / 16 := by
    unfold dSg
    rw [e2, dv_dn (by omega)]
  rw [e3]
  exact ⟨by omega, e2⟩
theorem dsurge {o : Nat} (h : dCP σ p P) (hp : p < 2) (hn : P.1 ≤ 12) (hV : dWV P) (hK : dWK P) (ho : o < P.1) : F_Pl_surge σ (dn p) (dn o) = some (dn (dSg P o)) := by
  unfold F_Pl_surge
  rw [px_gi (by omega) (by omega), px_gi (by omega) (by omega), px_gi (by omega) (by omega), dn_nat (show p < 2147483648 by omega), dn_nat (show o < 2147483648 by omega), h.a 2 (by omega) o ho, h.a 3 (by omega) o ho, h.a 4 (by omega) o ho, (dSg_b hV hK ho).2]
theorem dHs_b (h : dK P B) (hn : P.1 ≤ 12) (D : Nat → Bool) : dHs P B D ≤ 119988 := by
  have : ∀ m, m ≤ P.1 → nS (fun o => if D o = true then dLd B o else 0) m ≤ 9999 * m := by
    intro m
    induction m with
    | zero => intro _; exact Nat.le_refl _
    | succ m ih =>
      intro hm
      have h1 := ih (by omega)
      have h2 := (dLd_b h (show m < P.1 by omega)).1
      show nS _ m + (if D m = true then dLd B m else 0) ≤ _
      split <;> omega
  have := this P.1 (Nat.le_refl _)
  unfold dHs hSum
  omega
theorem dloads (h : dC σ k p P B) (hK : dK P B) (hp : p < 2) (hn : P.1 ≤ 12) : F_Or_allLoads σ k = some (dn (dHs P B fun o => decide (o < P.1))) := by
  suffices hh : dw (F_Or_allLoads σ k) (fun r => r = dn (dHs P B fun o => decide (o < P.1))) by
    obtain ⟨a, e, rfl⟩ := hh; exact e
  unfold F_Or_allLoads
  rw [dw_b1]
  refine dw_up P.1 (by unfold px_N; omega) (fun t s => s.1 = dn (nS (fun o => if decide (o < P.1) = true then dLd B o else 0) t) ∧ s.2 = dn t) (fun t s ht hI => ?_) (fun s hI => ?_) (Nat.zero_le _) ⟨rfl, rfl⟩
  · obtain ⟨v3, v4⟩ := s
    obtain ⟨rfl, rfl⟩ := hI
    show dw (Or_allLoads_n4 σ k _ _) _
    unfold Or_allLoads_n4
    rw [dC_n h hp, if_neg (by rw [dn_le (by omega) (by omega)]; omega)]
    refine dw_gi (by omega) (by omega) ?_
    rw [dn_nat (by omega), h.f t ht 0 (by omega), (dLd_b hK ht).2]
    simp only [dw_some, dR_l]
    refine ⟨?_, dn_suc t⟩
    rw [dn_add]
    show _ = dn (nS _ t + (if decide (t < P.1) = true then dLd B t else 0))
    rw [if_pos (by simp [ht])]
  · obtain ⟨v3, v4⟩ := s
    obtain ⟨rfl, rfl⟩ := hI
    show dw (Or_allLoads_n4 σ k _ _) _
    unfold Or_allLoads_n4
    rw [dC_n h hp, if_pos (by rw [dn_le (by omega) (by omega)]; omega)]
    simp only [dw_some, dR_r]
    rfl
/-- what some of a set hang on -/
theorem ddirs {x : Int32} (h : dCP σ p P) (hp : p < 2) (hn : P.1 ≤ 12) : dw (F_Pl_directOfAll σ (dn p) x) (fun y => ∀ i, i < 32 → (db y i = true ↔ ∃ j, j < P.1 ∧ db x j = true ∧ dDi P j i = true)) := by
  unfold F_Pl_directOfAll
  rw [dw_b1]
  refine dw_mono (P := fun y => ∀ i, i < 32 → (db y i = true ↔ ∃ j, j < P.1 ∧ db x j = true ∧ dDi P j i = true)) ?_ fun y hy => dw_some.mpr hy
  refine dw_up P.1 (by unfold px_N; omega) (fun t s => s.2 = dn t ∧ ∀ i, i < 32 → (db s.1 i = true ↔ ∃ j, j < t ∧ db x j = true ∧ dDi P j i = true)) (fun t s ht hI => ?_) (fun s hI => ?_) (Nat.zero_le _) ⟨rfl, fun i hi => ?_⟩
  · obtain ⟨y, v4⟩ := s
    obtain ⟨rfl, hy⟩ := hI
    dsimp only at hy
    show dw (Pl_directOfAll_n4 σ (dn p) x y (dn t)) _
    unfold Pl_directOfAll_n4 Pl_directOfAll_n29
    rw [dn_nat (show p < 2147483648 by omega), h.n, if_neg (by rw [dn_le (by omega) (by omega)]; omega)]
    by_cases c : db x t = true
    · rw [if_neg (fun z => by rw [db_sh0 (by omega), c] at z; exact absurd z (by decide))]
      refine dw_gi (by omega) (by omega) ?_
      rw [dn_nat (by omega), h.a 8 (by omega) t ht]
      simp only [dw_some, dR_l]
      refine ⟨dn_suc t, fun i hi => ?_⟩
      rw [db_or, Bool.or_eq_true, hy i hi]
      constructor
      · rintro (⟨j, j1, j2, j3⟩ | z)
        · exact ⟨j, by omega, j2, j3⟩
        · exact ⟨t, by omega, c, z⟩
      · intro ⟨j, j1, j2, j3⟩
        by_cases e : j = t
        · subst e; exact Or.inr j3
        · exact Or.inl ⟨j, by omega, j2, j3⟩
    · rw [if_pos ((db_sh0 (by omega)).mpr (by simpa using c))]
      simp only [dw_some, dR_l]
      refine ⟨dn_suc t, fun i hi => ?_⟩
      rw [hy i hi]
      constructor
      · intro ⟨j, j1, j2, j3⟩; exact ⟨j, by omega, j2, j3⟩
      · intro ⟨j, j1, j2, j3⟩
        by_cases e : j = t
        · subst e; exact absurd j2 c
        · exact ⟨j, by omega, j2, j3⟩
  · obtain ⟨y, v4⟩ := s
    obtain ⟨rfl, hy⟩ := hI
    dsimp only at hy
    show dw (Pl_directOfAll_n4 σ (dn p) x y (dn P.1)) _
    unfold Pl_directOfAll_n4
    rw [dn_nat (show p < 2147483648 by omega), h.n, if_pos (by rw [dn_le (by omega) (by omega)]; omega)]
    simp only [dw_some, dR_r]
    exact hy
  · rw [db_zero]
    exact ⟨fun z => absurd z (by decide), fun ⟨j, j1, _⟩ => absurd j1 (by omega)⟩
/-- of a set the one with the least surge -/
theorem dleastS {x : Int32} (h : dCP σ p P) (hp : p < 2) (hn : P.1 ≤ 12) (hV : dWV P) (hK : dWK P) : dw (F_Or_leastSurge σ (dn p) x) (fun r => (r = -2 ∧ ∀ j, j < P.1 → db x j = false) ∨ ∃ g, g < P.1 ∧ r = dn g ∧ db x g = true ∧ ∀ j, j < P.1 → db x j = true → dSg P g ≤ dSg P j) := by
  unfold F_Or_leastSurge
  rw [dw_b1]
  refine dw_mono (P := fun r => (r = -2 ∧ ∀ j, j < P.1 → db x j = false) ∨ ∃ g, g < P.1 ∧ r = dn g ∧ db x g = true ∧ ∀ j, j < P.1 → db x j = true → dSg P g ≤ dSg P j) ?_ fun y hy => dw_some.mpr hy
  refine dw_up P.1 (by unfold px_N; omega) (fun t s => s.2 = dn t ∧ ((s.1 = -2 ∧ ∀ j, j < t → db x j = false) ∨ ∃ g, g < t ∧ s.1 = dn g ∧ db x g = true ∧ ∀ j, j < t → db x j = true → dSg P g ≤ dSg P j)) (fun t s ht hI => ?_) (fun s hI => ?_) (Nat.zero_le _) ⟨rfl, Or.inl ⟨rfl, fun j hj => absurd hj (by omega)⟩⟩
  · obtain ⟨y, v4⟩ := s
    obtain ⟨rfl, hy⟩ := hI
    dsimp only at hy
    show dw (Or_leastSurge_n5 σ (dn p) x y (dn t)) _
    unfold Or_leastSurge_n5 Or_leastSurge_n38 Or_leastSurge_n40
    rw [dn_nat (show p < 2147483648 by omega), h.n, if_neg (by rw [dn_le (by omega) (by omega)]; omega)]
    by_cases c : db x t = true
    · rw [if_neg (fun z => by rw [db_sh0 (by omega), c] at z; exact absurd z (by decide))]
      rcases hy with ⟨h1, h2⟩ | ⟨g, g1, g2, g3, g4⟩
      · rw [if_pos (by rw [h1]; decide)]
        simp only [dw_some, dR_l]
        refine ⟨dn_suc t, Or.inr ⟨t, by omega, rfl, c, fun j hj hx => ?_⟩⟩
        by_cases e : j = t
        · rw [e]; exact Nat.le_refl _
        · rw [h2 j (by omega)] at hx; exact absurd hx (by decide)
      · rw [g2, if_neg (dn_nn (by omega)), dsurge h hp hn hV hK ht, px_b1_s, dsurge h hp hn hV hK (show g < P.1 by omega), px_b1_s]
        have b1 := (dSg_b hV hK ht).1
        have b2 := (dSg_b hV hK (show g < P.1 by omega)).1
        by_cases c2 : dSg P g ≤ dSg P t
        · rw [if_pos (by rw [dn_le (by omega) (by omega)]; exact c2)]
          simp only [dw_some, dR_l]
          refine ⟨dn_suc t, Or.inr ⟨g, by omega, rfl, g3, fun j hj hx => ?_⟩⟩
          by_cases e : j = t
          · rw [e]; exact c2
          · exact g4 j (by omega) hx
        · rw [if_neg (by rw [dn_le (by omega) (by omega)]; exact c2)]
          simp only [dw_some, dR_l]
          refine ⟨dn_suc t, Or.inr ⟨t, by omega, rfl, c, fun j hj hx => ?_⟩⟩
          by_cases e : j = t
          · rw [e]; exact Nat.le_refl _
          · have := g4 j (by omega) hx
            omega
    · rw [if_pos ((db_sh0 (by omega)).mpr (by simpa using c))]
      simp only [dw_some, dR_l]
      refine ⟨dn_suc t, ?_⟩
      rcases hy with ⟨h1, h2⟩ | ⟨g, g1, g2, g3, g4⟩
      · refine Or.inl ⟨h1, fun j hj => ?_⟩
        by_cases e : j = t
        · rw [e]; simpa using c
        · exact h2 j (by omega)
      · refine Or.inr ⟨g, by omega, g2, g3, fun j hj hx => ?_⟩
        by_cases e : j = t
        · rw [e] at hx; exact absurd hx c
        · exact g4 j (by omega) hx
  · obtain ⟨y, v4⟩ := s
    obtain ⟨rfl, hy⟩ := hI
    dsimp only at hy
    show dw (Or_leastSurge_n5 σ (dn p) x y (dn P.1)) _
    unfold Or_leastSurge_n5
    rw [dn_nat (show p < 2147483648 by omega), h.n, if_pos (by rw [dn_le (by omega) (by omega)]; omega)]
    simp only [dw_some, dR_r]
    exact hy
theorem db_drop {x : Int32} {g i : Nat} (hg : g < 32) (hi : i < 32) : db (x &&& ((1 <<< (dn g &&& 31)) ^^^ (-1))) i = (db x i && !decide (i = g)) := by
  rw [db_and, db_not hi, db_one hg]
  by_cases e : g = i
  · subst e; simp
  · have : ¬ i = g := fun z => e z.symm
    simp [e, this]
theorem db_drop' {x : Int32} {g : Nat} (hg : g < 32) : db (x &&& ((1 <<< (dn g &&& 31)) ^^^ (-1))) = hRem (db x) g := by
  funext i
  unfold hRem
  by_cases hi : i < 32
  · exact db_drop hg hi
  · rw [db_big (by omega), db_big (by omega)]; rfl
/-- the class' least heat of those that are left -/
theorem dheat {x0 : Int32} (h : dC σ k p P B) (hK : dK P B) (hp : p < 2) (hn : P.1 ≤ 12) (hV : dWV P) (hk : dWK P) (hD : dWD P) (hx : ∀ i, i < 32 → db x0 i = true → i < P.1) : dw (F_Or_leastHeat σ k x0) (fun r => (r = -2 ∧ ∀ h, ¬ dFe P B (dRest P x0) (db x0) h) ∨ ∃ a, a ≤ 200000 ∧ r = dn a ∧ ∀ h, dFe P B (dRest P x0) (db x0) h ↔ a ≤ h) := by
  have hbig : ∀ (x : Int32), (∀ i, i < 32 → db x i = true → i < P.1) → ∀ i, db x i = true → i < P.1 := fun x hx i hi => by
    by_cases c : i < 32
    · exact hx i c hi
    · rw [db_big (by omega)] at hi; exact absurd hi (by decide)
  unfold F_Or_leastHeat
  refine dw_v (dloads h hK hp hn) ?_
  rw [h.hp, dw_b1]
  refine dw_mono (P := fun e : Nat × Int32 => (e.1 = 0 ∧ ∀ h, ¬ dFe P B (dRest P x0) (db x0) h) ∨ (¬ e.1 = 0 ∧ ∃ a, a ≤ 200000 ∧ e.2 = dn a ∧ ∀ h, dFe P B (dRest P x0) (db x0) h ↔ a ≤ h)) ?_ fun e he => ?_
  · refine dw_it (fun m s => ∃ a k, s.2.1 = dn (dHs P B (dRest P x0) + dHs P B (db s.1)) ∧ s.2.2.1 = dn a ∧ a ≤ 200000 ∧ s.2.2.2 = dn k ∧ (∀ i, i < 32 → db s.1 i = true → db x0 i = true) ∧ (∀ r, db s.1 r = true → ∀ o, dDi P r o = true → dRest P x0 o = true ∨ db s.1 o = true) ∧ dcn (db s.1) P.1 = m ∧ m + k ≤ P.1 ∧ ∀ h, dFe P B (dRest P x0) (db x0) h ↔ a ≤ h ∧ dFe P B (dRest P x0) (db s.1) h) (fun m s hI => ?_) px_N (dcn (db x0) P.1) _ (by have := dcn_n (db x0) P.1; unfold px_N; omega) ⟨0, 0, ?_, rfl, by omega, rfl, fun _ _ => id, fun r hr o ho => ?_, rfl, dcn_n _ _, fun h => ⟨fun z => ⟨Nat.zero_le _, z⟩, fun z => z.2⟩⟩
    · obtain ⟨x, su, he, kk⟩ := s
      obtain ⟨a, k', i1, i2, i3, i4, i5, i6, i7, i8, i9⟩ := hI
      dsimp only at i1 i2 i4 i5 i6 i7 i9
      subst i1 i2 i4
      have hxb := hbig x fun i hi z => hx i hi (i5 i hi z)
      have bs := dHs_b hK hn (fun o => decide (o < P.1))
      have hsum : dHs P B (dRest P x0) + dHs P B (db x) ≤ 239976 := by
        have := dHs_b hK hn (dRest P x0)
        have := dHs_b hK hn (db x)
        omega
      have hdis : ∀ i, db x i = true → dRest P x0 i = false := fun i hi => by
        have : i < 32 := by have := hxb i hi; omega
        unfold dRest
        rw [i5 i this hi]; simp
      have hle : dHs P B (dRest P x0) + dHs P B (db x) ≤ 119988 := by
        have e1 : dHs P B (dRest P x0) + dHs P B (db x) ≤ dHs P B (fun o => decide (o < P.1)) := by
          unfold dHs hSum
          have : ∀ m, m ≤ P.1 → nS (fun o => if dRest P x0 o = true then dLd B o else 0) m + nS (fun o => if db x o = true then dLd B o else 0) m ≤ nS (fun o => if decide (o < P.1) = true then dLd B o else 0) m := by
            intro m
            induction m with
            | zero => intro _; exact Nat.le_refl _
            | succ m ih =>
              intro hm
              have := ih (by omega)
              show nS _ m + (if dRest P x0 m = true then dLd B m else 0) + (nS _ m + (if db x m = true then dLd B m else 0)) ≤ nS _ m + (if decide (m < P.1) = true then dLd B m else 0)
              have h1 : decide (m < P.1) = true := by simp; omega
              rw [if_pos h1]
              by_cases c : db x m = true
              · rw [if_pos c, hdis m c, if_neg (by decide)]
                omega
              · rw [if_neg c]
                split <;> omega
          exact this P.1 (Nat.le_refl _)
        omega
      show dw (Or_leastHeat_n19 σ k (dn p) x _ (dn a) (dn k')) _
      unfold Or_leastHeat_n19
      have fin : x = 0 → dw (some (.inr (1, dn a)) : Option ((Int32 × Int32 × Int32 × Int32) ⊕ (Nat × Int32))) (dR (fun s' => ∃ k', k' < m ∧ ∃ a k, s'.2.1 = dn (dHs P B (dRest P x0) + dHs P B (db s'.1)) ∧ s'.2.2.1 = dn a ∧ a ≤ 200000 ∧ s'.2.2.2 = dn k ∧ (∀ i, i < 32 → db s'.1 i = true → db x0 i = true) ∧ (∀ r, db s'.1 r = true → ∀ o, dDi P r o = true → dRest P x0 o = true ∨ db s'.1 o = true) ∧ dcn (db s'.1) P.1 = k' ∧ k' + k ≤ P.1 ∧ ∀ h, dFe P B (dRest P x0) (db x0) h ↔ a ≤ h ∧ dFe P B (dRest P x0) (db s'.1) h) (fun e => (e.1 = 0 ∧ ∀ h, ¬ dFe P B (dRest P x0) (db x0) h) ∨ (¬ e.1 = 0 ∧ ∃ a, a ≤ 200000 ∧ e.2 = dn a ∧ ∀ h, dFe P B (dRest P x0) (db x0) h ↔ a ≤ h))) := fun hx0 => by
        simp only [dw_some, dR_r]
        refine Or.inr ⟨by decide, a, i3, rfl, fun h => ?_⟩
        rw [i9 h]
        refine ⟨fun z => z.1, fun z => ⟨z, hFe_0 fun o => ?_⟩⟩
        rw [hx0, db_zero]
      have hzero : dcn (db x) P.1 = 0 → x = 0 := fun hz => by
        apply db_ext
        intro i hi
        rw [db_zero]
        cases e : db x i with
        | false => rfl
        | true =>
          have := dcn_lt (f := fun _ => false) (h := db x) (o := i) P.1 (fun _ _ z => by cases z) (hxb i e) e rfl
          omega
      by_cases c12 : k' = 12
      · rw [if_pos (by rw [show (12 : Int32) = dn 12 from rfl, dn_le (by omega) (by omega)]; omega)]
        exact fin (hzero (by omega))
      rw [if_neg (by rw [show (12 : Int32) = dn 12 from rfl, dn_le (by omega) (by omega)]; omega)]
      by_cases cx : x = 0
      · rw [if_pos cx]; exact fin cx
      rw [if_neg cx, dw_b1]
      have hne : ∃ y, db x y = true := by
        refine Classical.byContradiction fun z => cx ?_
        apply db_ext
        intro i hi
        rw [db_zero]
        cases e : db x i with
        | false => rfl
        | true => exact absurd ⟨i, e⟩ z
      refine dw_mono (ddirs h.P hp hn) fun y hy => ?_
      rw [dw_b1]
      have hsink : ∀ i, i < P.1 → (db (x &&& (y ^^^ (-1))) i = true ↔ db x i = true ∧ ∀ j, db x j = true → dDi P j i = false) := fun i hi => by
        rw [db_and, db_not (by omega), Bool.and_eq_true]
        constructor
        · intro ⟨z1, z2⟩
          refine ⟨z1, fun j hj => ?_⟩
          cases e : dDi P j i with
          | false => rfl
          | true =>
            have := (hy i (by omega)).mpr ⟨j, hxb j hj, hj, e⟩
            rw [this] at z2; exact absurd z2 (by decide)
        · intro ⟨z1, z2⟩
          refine ⟨z1, ?_⟩
          cases e : db y i with
          | false => rfl
          | true =>
            obtain ⟨j, j1, j2, j3⟩ := (hy i (by omega)).mp e
            rw [z2 j j2] at j3; exact absurd j3 (by decide)
      have hlast : ∀ h, dFe P B (dRest P x0) (db x) h → ∃ z, z < P.1 ∧ db (x &&& (y ^^^ (-1))) z = true ∧ dHs P B (dRest P x0) + dHs P B (db x) + dSg P z ≤ h := fun h z => by
        obtain ⟨w, w1, w2, w3⟩ := hFe_last hxb hdis hne z
        exact ⟨w, hxb w w1, (hsink w (hxb w w1)).mpr ⟨w1, w2⟩, w3⟩
      refine dw_mono (dleastS h.P hp hn hV hk) fun r hr => ?_
      rcases hr with ⟨r1, r2⟩ | ⟨g, g1, g2, g3, g4⟩
      · rw [if_neg (by rw [r1]; decide)]
        simp only [dw_some, dR_r]
        refine Or.inl ⟨trivial, fun h z => ?_⟩
        obtain ⟨w, w1, w2, _⟩ := hlast h ((i9 h).mp z).2
        rw [r2 w w1] at w2; exact absurd w2 (by decide)
      · obtain ⟨s1, s2⟩ := (hsink g g1).mp g3
        have bg := (dSg_b hV hk g1).1
        have bl := dLd_b hK g1
        rw [g2, if_pos (by rw [show (0 : Int32) = dn 0 from rfl, dn_le (by omega) (by omega)]; omega), dsurge h.P hp hn hV hk g1, px_b1_s]
        refine dw_gi (by omega) (by omega) ?_
        rw [dn_nat (by omega), h.f g g1 0 (by omega), bl.2]
        simp only [dw_some, dR_l]
        have er : db (x &&& ((1 <<< (dn g &&& 31)) ^^^ (-1))) = hRem (db x) g := db_drop' (by omega)
        have esum : dHs P B (db x) = dHs P B (hRem (db x) g) + dLd B g := by
          unfold dHs
          rw [← hSum_add g1 (show hRem (db x) g g = false by unfold hRem; simp)]
          refine hSum_c fun o _ => ?_
          unfold hAdd hRem
          by_cases e : o = g
          · subst e; simp [s1]
          · simp [e]
        refine ⟨dcn (hRem (db x) g) P.1, ?_, max a (dHs P B (dRest P x0) + dHs P B (db x) + dSg P g), k' + 1, ?_, ?_, by omega, dn_suc k', ?_, ?_, ?_, ?_, ?_⟩
        · rw [← i7]
          refine dcn_lt (o := g) P.1 (fun i _ z => ?_) g1 s1 (by unfold hRem; simp)
          unfold hRem at z
          rw [Bool.and_eq_true] at z
          exact z.1
        · rw [er, esum, show dHs P B (dRest P x0) + (dHs P B (hRem (db x) g) + dLd B g) = dHs P B (dRest P x0) + dHs P B (hRem (db x) g) + dLd B g by omega, dn_sub (by omega)]
          congr 1
          omega
        · rw [dn_add]
          by_cases c : a < dHs P B (dRest P x0) + dHs P B (db x) + dSg P g
          · rw [if_pos (by rw [dn_lt (by omega) (by omega)]; exact c)]; congr 1; omega
          · rw [if_neg (by rw [dn_lt (by omega) (by omega)]; exact c)]; congr 1; omega
        · intro i hi z
          rw [er] at z
          unfold hRem at z
          rw [Bool.and_eq_true] at z
          exact i5 i hi z.1
        · intro r hr o ho
          rw [er] at hr ⊢
          have hr1 : db x r = true := by
            unfold hRem at hr
            rw [Bool.and_eq_true] at hr
            exact hr.1
          rcases i6 r hr1 o ho with z | z
          · exact Or.inl z
          · right
            have : ¬ o = g := fun e => by rw [e, s2 r hr1] at ho; exact absurd ho (by decide)
            unfold hRem
            simp [z, this]
        · rw [er]
        · have : dcn (hRem (db x) g) P.1 < m := by
            rw [← i7]
            refine dcn_lt (o := g) P.1 (fun i _ z => ?_) g1 s1 (by unfold hRem; simp)
            unfold hRem at z
            rw [Bool.and_eq_true] at z
            exact z.1
          omega
        · intro h
          rw [i9 h, er]
          constructor
          · intro ⟨z1, z2⟩
            obtain ⟨w, w1, w2, w3⟩ := hlast h z2
            have := g4 w w1 w2
            exact ⟨by omega, hFe_rem s2 z2⟩
          · intro ⟨z1, z2⟩
            exact ⟨by omega, hFe_app hxb s1 (s2 g s1) (i6 g s1) (by unfold dHs at z1; omega) z2⟩
    · dsimp only
      have e : dHs P B (dRest P x0) + dHs P B (db x0) = dHs P B fun o => decide (o < P.1) := by
        unfold dHs hSum
        have : ∀ m, m ≤ P.1 → nS (fun o => if dRest P x0 o = true then dLd B o else 0) m + nS (fun o => if db x0 o = true then dLd B o else 0) m = nS (fun o => if decide (o < P.1) = true then dLd B o else 0) m := by
          intro m
          induction m with
          | zero => intro _; rfl
          | succ m ih =>
            intro hm
            have := ih (by omega)
            show nS _ m + (if dRest P x0 m = true then dLd B m else 0) + (nS _ m + (if db x0 m = true then dLd B m else 0)) = nS _ m + (if decide (m < P.1) = true then dLd B m else 0)
            have h1 : decide (m < P.1) = true := by simp; omega
            rw [if_pos h1]
            by_cases c : db x0 m = true
            · rw [if_pos c]
              have : dRest P x0 m = false := by unfold dRest; rw [c]; simp
              rw [this, if_neg (by decide)]
              omega
            · rw [if_neg c]
              have c : db x0 m = false := by simpa using c
              have : dRest P x0 m = true := by unfold dRest; rw [c, h1]; rfl
              rw [if_pos this]
              omega
        exact this P.1 (Nat.le_refl _)
      rw [e]
    · have hr2 := hbig x0 hx r hr
      have ho2 : o < P.1 := by
        by_cases c : o < 32
        · exact hD r hr2 o c ho
        · unfold dDi at ho
          rw [db_big (by omega)] at ho; exact absurd ho (by decide)
      dsimp only
      cases e : db x0 o with
      | true => exact Or.inr rfl
      | false =>
        left
        unfold dRest
        rw [e]; simp [ho2]
  · rcases he with ⟨e1, e2⟩ | ⟨e1, a, a1, a2, a3⟩
    · rw [if_pos e1]; exact dw_some.mpr (Or.inl ⟨rfl, e2⟩)
    · rw [if_neg e1]; exact dw_some.mpr (Or.inr ⟨a, a1, a2, a3⟩)
end G7
end
section
/-! the reference: heat of all sets -/
theorem db_dn {D i : Nat} (hi : i < 32) : db (dn D) i = D.testBit i := by
  show (BitVec.ofNat 32 D).getLsbD i = _
  rw [BitVec.getLsbD_ofNat]
  simp [hi]
theorem dAll_dn {n : Nat} (hn : n ≤ 12) : dAll n = dn (2 ^ n - 1) := by
  have : ∀ n : Fin 13, dAll n.val = dn (2 ^ n.val - 1) := by decide
  exact this ⟨n, by omega⟩
theorem d2n {n : Nat} (hn : n ≤ 12) : 1 ≤ 2 ^ n ∧ 2 ^ n ≤ 4096 := by
  have : ∀ n : Fin 13, 1 ≤ 2 ^ n.val ∧ 2 ^ n.val ≤ 4096 := by decide
  exact this ⟨n, by omega⟩
theorem dn_or {D r : Nat} (hD : D < 4294967296) (hr : r < 32) : dn D ||| (1 <<< (dn r &&& 31)) = dn (D ||| 2 ^ r) := by
  apply db_ext
  intro i hi
  rw [db_or, db_dn hi, db_one hr, db_dn hi, Nat.testBit_or, Nat.testBit_two_pow]
theorem dor_lt {D r n : Nat} (hD : D < 2 ^ n) (hr : r < n) : D ||| 2 ^ r < 2 ^ n := Nat.or_lt_two_pow hD (Nat.pow_lt_pow_right (by omega) hr)
theorem dor_gt {D r : Nat} (h : D.testBit r = false) : D < D ||| 2 ^ r := by
  have h1 : D ≤ D ||| 2 ^ r := Nat.left_le_or
  have h2 : D ≠ D ||| 2 ^ r := fun e => by
    have : (D ||| 2 ^ r).testBit r = true := by rw [Nat.testBit_or, Nat.testBit_two_pow]; simp
    rw [← e, h] at this; exact absurd this (by decide)
  omega
theorem dbit_n {D n i : Nat} (hD : D < 2 ^ n) (h : D.testBit i = true) : i < n := by
  refine Classical.byContradiction fun z => ?_
  have : D < 2 ^ i := Nat.lt_of_lt_of_le hD (Nat.pow_le_pow_right (by omega) (by omega))
  rw [Nat.testBit_lt_two_pow this] at h
  exact absurd h (by decide)
section G8
variable {σ σ' μ μ' : pxS} {P : dP} {k p f g : Nat} {B B' : dB} {I : Option dB} {H : List dB}
/-- the sets told by a number below 2^n -/
def dSet' (D : Nat) : Nat → Bool := fun o => D.testBit o
def dSR (P : dP) (D : Nat) : Nat → Bool := fun o => decide (o < P.1) && !D.testBit o
def dSp (P : dP) (B : dB) (D v : Nat) : Prop := v ≤ 268435456 ∧ ∀ h, h < 268435456 → (dFe P B (dSet' D) (dSR P D) h ↔ v ≤ h)
theorem dSet_add {D r : Nat} : dSet' (D ||| 2 ^ r) = hAdd (dSet' D) r := by
  funext o
  unfold dSet' hAdd
  rw [Nat.testBit_or, Nat.testBit_two_pow]
  by_cases e : r = o
  · subst e; simp
  · have : ¬ o = r := fun z => e z.symm
    simp [e, this]
theorem dSR_rem {D r : Nat} : dSR P (D ||| 2 ^ r) = hRem (dSR P D) r := by
  funext o
  unfold dSR hRem
  rw [Nat.testBit_or, Nat.testBit_two_pow]
  by_cases e : r = o
  · subst e; simp
  · have : ¬ o = r := fun z => e z.symm
    simp [e, this]
theorem dheatAt {D r : Nat} (h : dM μ P B) (hK : dK P B) (hV : dWV P) (hk : dWK P) (hn : P.1 ≤ 12) (hD : D < 4096) (hr : r < P.1) : F_Mo_heatAt μ (dn D) (dn r) = some (dn (dHs P B (dSet' D) + dLd B r + dSg P r)) := by
  suffices hh : dw (F_Mo_heatAt μ (dn D) (dn r)) (fun x => x = dn (dHs P B (dSet' D) + dLd B r + dSg P r)) by
    obtain ⟨a, e, rfl⟩ := hh; exact e
  unfold F_Mo_heatAt
  rw [dw_b1]
  refine dw_mono (P := fun x => x = dn (dHs P B (dSet' D))) ?_ fun x hx => ?_
  · refine dw_up P.1 (by unfold px_N; omega) (fun t s => s.1 = dn (nS (fun o => if dSet' D o = true then dLd B o else 0) t) ∧ s.2 = dn t) (fun t s ht hI => ?_) (fun s hI => ?_) (Nat.zero_le _) ⟨rfl, rfl⟩
    · obtain ⟨v3, v4⟩ := s
      obtain ⟨rfl, rfl⟩ := hI
      show dw (Mo_heatAt_n5 μ (dn D) _ _ (dn t)) _
      unfold Mo_heatAt_n5
      refine dw_v (dM_n h) ?_
      have e : nS (fun o => if dSet' D o = true then dLd B o else 0) (t + 1) = nS (fun o => if dSet' D o = true then dLd B o else 0) t + (if dSet' D t = true then dLd B t else 0) := rfl
      rw [if_neg (by rw [dn_le (by omega) (by omega)]; omega), e]
      by_cases c : dSet' D t = true
      · rw [if_pos ((db_sh1 (by omega)).mpr (by rw [db_dn (by omega)]; exact c)), show 13 * dn t + 6 = dn (13 * t + 6) from ix t 6, if_pos c]
        refine dw_gi (by omega) (by omega) ?_
        rw [dn_nat (by omega), show μ (1, 28, 0) (13 * t + 6) = B.1 t 0 from h.s.f t ht (0, 6) (by decide), (dLd_b hK ht).2, dn_add]
        simp only [dw_some, dR_l]
        exact ⟨trivial, dn_suc t⟩
      · rw [if_neg (fun z => c (by
          have := (db_sh1 (by omega)).mp z
          rw [db_dn (by omega)] at this; exact this)), if_neg c]
        simp only [dw_some, dR_l]
        exact ⟨Int32.add_zero _, dn_suc t⟩
    · obtain ⟨v3, v4⟩ := s
      obtain ⟨rfl, rfl⟩ := hI
      show dw (Mo_heatAt_n5 μ (dn D) _ _ (dn P.1)) _
      unfold Mo_heatAt_n5
      refine dw_v (dM_n h) ?_
      rw [if_pos (by rw [dn_le (by omega) (by omega)]; omega)]
      simp only [dw_some, dR_r]
      rfl
  · subst hx
    rw [show 13 * dn r + 6 = dn (13 * r + 6) from ix r 6, px_gi (by omega) (by omega), px_gi (by omega) (by omega), dn_nat (show r < 2147483648 by omega), dn_nat (show 13 * r + 6 < 2147483648 by omega), show μ (1, 7, 0) r = P.2.2.2 2 r from h.P.a 2 (by omega) r hr, show μ (1, 8, 0) r = P.2.2.2 3 r from h.P.a 3 (by omega) r hr, show μ (1, 9, 0) r = P.2.2.2 4 r from h.P.a 4 (by omega) r hr, show μ (1, 28, 0) (13 * r + 6) = B.1 r 0 from h.s.f r hr (0, 6) (by decide), (dLd_b hK hr).2]
    have es := (dSg_b hV hk hr).2
    by_cases c : P.2.2.2 2 r < P.2.2.2 3 r
    · rw [if_pos c] at es
      rw [if_pos (Int32.le_of_lt c), px_gi (by omega) (by omega), px_gi (by omega) (by omega), px_gi (by omega) (by omega), dw_some, es, dn_add, dn_add]
    · rw [if_neg c] at es
      by_cases c2 : P.2.2.2 2 r ≤ P.2.2.2 3 r
      · have e : P.2.2.2 2 r = P.2.2.2 3 r := Int32.le_antisymm c2 (Int32.not_lt.mp c)
        rw [if_pos c2, px_gi (by omega) (by omega), px_gi (by omega) (by omega), px_gi (by omega) (by omega), dw_some, e, es, dn_add, dn_add]
      · rw [if_neg c2, px_gi (by omega) (by omega), px_gi (by omega) (by omega), px_gi (by omega) (by omega), dw_some, es, dn_add, dn_add]
def dMay (P : dP) (D r : Nat) : Prop := D.testBit r = false ∧ ∀ o, dDi P r o = true → D.testBit o = true
theorem dmay {D r : Nat} (h : dM μ P B) (hD2 : dWD P) (hn : P.1 ≤ 12) (hr : r < P.1) : (dMay P D r ∧ F_Mo_mayCome μ (dn D) (dn r) = some 1) ∨ (¬ dMay P D r ∧ F_Mo_mayCome μ (dn D) (dn r) = some 0) := by
  unfold F_Mo_mayCome Mo_mayCome_n25
  by_cases c : D.testBit r = false
  · rw [if_pos ((db_sh0 (by omega)).mpr (by rw [db_dn (by omega)]; exact c)), px_gi (by omega) (by omega), dn_nat (show r < 2147483648 by omega), h.P.dir r hr]
    have key : P.2.2.2 8 r &&& (dn D ^^^ (-1)) = 0 ↔ ∀ o, dDi P r o = true → D.testBit o = true := by
      rw [dand0]
      constructor
      · intro z o ho
        have ho2 : o < 32 := by
          refine Classical.byContradiction fun y => ?_
          unfold dDi at ho
          rw [db_big (by omega)] at ho; exact absurd ho (by decide)
        have := z o ho2
        rw [db_not ho2, db_dn ho2] at this
        cases e : D.testBit o with
        | true => rfl
        | false => exact absurd ⟨ho, by rw [e]; rfl⟩ this
      · intro z o ho y
        rw [db_not ho, db_dn ho] at y
        rw [z o y.1] at y
        exact absurd y.2 (by decide)
    by_cases c2 : P.2.2.2 8 r &&& (dn D ^^^ (-1)) = 0
    · rw [if_pos c2]; exact Or.inl ⟨⟨c, key.mp c2⟩, rfl⟩
    · rw [if_neg c2]; exact Or.inr ⟨fun z => c2 (key.mpr z.2), rfl⟩
  · rw [if_neg (fun z => c (by
      have := (db_sh0 (by omega)).mp z
      rw [db_dn (by omega)] at this; exact this))]
    exact Or.inr ⟨fun z => c z.1, rfl⟩
def dG39 (μ μ' : pxS) : Prop := ∀ j, j ≠ (1, 39, 0) → μ' j = μ j
theorem dM_39 (h : dM μ P B) (hG : dG39 μ μ') : dM μ' P B := ⟨by rw [hG _ (by simp)]; exact h.s, dMP_e (fun a ha => hG _ (by simp; omega)) h.P⟩
theorem dHs_39 (hK : dK P B) (hV : dWV P) (hk : dWK P) (hn : P.1 ≤ 12) {r : Nat} (hr : r < P.1) (D : Nat → Bool) : dHs P B D + dLd B r + dSg P r ≤ 300000 := by
  have := dHs_b hK hn D
  have := (dLd_b hK hr).1
  have := (dSg_b hV hk hr).1
  omega
/-- one set, all larger ones told -/
theorem dset1 {D : Nat} (h : dM μ P B) (hK : dK P B) (hV : dWV P) (hk : dWK P) (hD2 : dWD P) (hn : P.1 ≤ 12) (hD : D < 2 ^ P.1 - 1) (ha : ∀ E, D < E → E < 2 ^ P.1 → ∃ v, μ (1, 39, 0) E = dn v ∧ dSp P B E v) : dw (px_it (Mo_laysHeat_L31 μ (dn D)) px_N (268435456, 0)) (fun x => ∃ v, x = dn v ∧ dSp P B D v) := by
  obtain ⟨h1, h2⟩ := d2n hn
  have hS : ∃ x, dSR P D x = true := by
    refine Classical.byContradiction fun z => ?_
    have : D = 2 ^ P.1 - 1 := by
      apply Nat.eq_of_testBit_eq
      intro i
      rw [Nat.testBit_two_pow_sub_one]
      by_cases c : i < P.1
      · cases e : D.testBit i with
        | true => simp [c]
        | false =>
          refine absurd ⟨i, ?_⟩ z
          unfold dSR
          rw [e]; simp [c]
      · cases e : D.testBit i with
        | false => simp [c]
        | true => exact absurd (dbit_n (by omega) e) c
    omega
  have hcost := fun r (hr : r < P.1) => dHs_39 hK hV hk hn hr (dSet' D)
  -- which first ones lead on within a heat
  refine dw_mono (P := fun x => ∃ v, x = dn v ∧ v ≤ 268435456 ∧ ∀ h, h < 268435456 → ((∃ r, r < P.1 ∧ dMay P D r ∧ dHs P B (dSet' D) + dLd B r + dSg P r ≤ h ∧ dFe P B (dSet' (D ||| 2 ^ r)) (dSR P (D ||| 2 ^ r)) h) ↔ v ≤ h)) ?_ fun x ⟨v, v1, v2, v3⟩ => ⟨v, v1, v2, fun h hh => ?_⟩
  · refine dw_up P.1 (by unfold px_N; omega) (fun t s => s.2 = dn t ∧ ∃ v, s.1 = dn v ∧ v ≤ 268435456 ∧ ∀ h, h < 268435456 → ((∃ r, r < t ∧ dMay P D r ∧ dHs P B (dSet' D) + dLd B r + dSg P r ≤ h ∧ dFe P B (dSet' (D ||| 2 ^ r)) (dSR P (D ||| 2 ^ r)) h) ↔ v ≤ h)) (fun t s ht hI => ?_) (fun s hI => ?_) (Nat.zero_le _) ⟨rfl, 268435456, rfl, by omega, fun h hh => ⟨fun ⟨r, hr, _⟩ => absurd hr (by omega), fun z => absurd z (by omega)⟩⟩
    · obtain ⟨x, w⟩ := s
      obtain ⟨rfl, v, v1, v2, v3⟩ := hI
      dsimp only at v1
      subst v1
      show dw (Mo_laysHeat_n31 μ (dn D) (dn v) (dn t)) _
      unfold Mo_laysHeat_n31 Mo_laysHeat_n89
      refine dw_v (dM_n h) ?_
      rw [if_neg (by rw [dn_le (by omega) (by omega)]; omega)]
      rcases dmay (D := D) h hD2 hn ht with ⟨m1, m2⟩ | ⟨m1, m2⟩
      · rw [m2, px_b1_s, if_neg (by decide), dheatAt h hK hV hk hn (by omega) ht, px_b1_s, dn_or (by omega) (by omega)]
        have hlt : D ||| 2 ^ t < 2 ^ P.1 := dor_lt (by omega) ht
        refine dw_gi (by omega) (by omega) ?_
        obtain ⟨u, u1, u2, u3⟩ := ha (D ||| 2 ^ t) (dor_gt m1.1) hlt
        have hc := hcost t ht
        rw [dn_nat (by omega), u1, dgreater, px_b1_s]
        have eg : dGx (dn (dHs P B (dSet' D) + dLd B t + dSg P t)) (dn u) = dn (max (dHs P B (dSet' D) + dLd B t + dSg P t) u) := by
          unfold dGx
          by_cases c : dHs P B (dSet' D) + dLd B t + dSg P t < u
          · rw [if_pos (by rw [dn_lt (by omega) (by omega)]; exact c)]; congr 1; omega
          · rw [if_neg (by rw [dn_lt (by omega) (by omega)]; exact c)]; congr 1; omega
        rw [eg]
        have step : ∀ h, h < 268435456 → ((∃ r, r < t + 1 ∧ dMay P D r ∧ dHs P B (dSet' D) + dLd B r + dSg P r ≤ h ∧ dFe P B (dSet' (D ||| 2 ^ r)) (dSR P (D ||| 2 ^ r)) h) ↔ min v (max (dHs P B (dSet' D) + dLd B t + dSg P t) u) ≤ h) := fun h hh => by
          constructor
          · intro ⟨r, r1, r2, r3, r4⟩
            by_cases e : r = t
            · subst e
              have := (u3 h hh).mp r4
              omega
            · have := (v3 h hh).mp ⟨r, by omega, r2, r3, r4⟩
              omega
          · intro z
            by_cases c : v ≤ h
            · obtain ⟨r, r1, r2, r3, r4⟩ := (v3 h hh).mpr c
              exact ⟨r, by omega, r2, r3, r4⟩
            · exact ⟨t, by omega, m1, by omega, (u3 h hh).mpr (by omega)⟩
        by_cases c : dn v ≤ dn (max (dHs P B (dSet' D) + dLd B t + dSg P t) u)
        · rw [if_pos c]
          rw [dn_le (by omega) (by omega)] at c
          simp only [dw_some, dR_l]
          refine ⟨dn_suc t, v, rfl, v2, fun h hh => ?_⟩
          rw [step h hh, show min v (max (dHs P B (dSet' D) + dLd B t + dSg P t) u) = v by omega]
        · rw [if_neg c]
          rw [dn_le (by omega) (by omega)] at c
          simp only [dw_some, dR_l]
          refine ⟨dn_suc t, _, rfl, by omega, fun h hh => ?_⟩
          rw [step h hh, show min v (max (dHs P B (dSet' D) + dLd B t + dSg P t) u) = max (dHs P B (dSet' D) + dLd B t + dSg P t) u by omega]
      · rw [m2, px_b1_s, if_pos rfl]
        simp only [dw_some, dR_l]
        refine ⟨dn_suc t, v, rfl, v2, fun h hh => ?_⟩
        rw [← v3 h hh]
        constructor
        · intro ⟨r, r1, r2, r3⟩
          by_cases e : r = t
          · subst e; exact absurd r2 m1
          · exact ⟨r, by omega, r2, r3⟩
        · intro ⟨r, r1, r2, r3⟩; exact ⟨r, by omega, r2, r3⟩
    · obtain ⟨x, w⟩ := s
      obtain ⟨rfl, hv⟩ := hI
      show dw (Mo_laysHeat_n31 μ (dn D) x (dn P.1)) _
      unfold Mo_laysHeat_n31
      refine dw_v (dM_n h) ?_
      rw [if_pos (by rw [dn_le (by omega) (by omega)]; omega)]
      simp only [dw_some, dR_r]
      exact hv
  · rw [← v3 h hh]
    unfold dFe
    rw [hFe_head hS]
    constructor
    · intro ⟨r, r1, r2, r3, r4, r5⟩
      refine ⟨r, r2, ⟨?_, r3⟩, r4, by rw [dSet_add, dSR_rem]; exact r5⟩
      unfold dSR at r1
      rw [Bool.and_eq_true] at r1
      simpa using r1.2
    · intro ⟨r, r2, r3, r4, r5⟩
      rw [dSet_add, dSR_rem] at r5
      refine ⟨r, ?_, r2, r3.2, r4, r5⟩
      unfold dSR
      rw [r3.1]; simp [r2]
theorem dlayH (h : dM μ P B) (hK : dK P B) (hV : dWV P) (hk : dWK P) (hD2 : dWD P) (hn : P.1 ≤ 12) : dw (F_Mo_laysHeat μ) (fun τ => dG39 μ τ ∧ ∀ D, D < 2 ^ P.1 → ∃ v, τ (1, 39, 0) D = dn v ∧ dSp P B D v) := by
  obtain ⟨h1, h2⟩ := d2n hn
  unfold F_Mo_laysHeat
  refine dw_v (dM_n h) ?_
  rw [show (1 <<< (dn P.1 &&& 31)) - 1 = dn (2 ^ P.1 - 1) from dAll_dn hn]
  refine dw_gi (by omega) (by omega) ?_
  rw [dn_nat (by omega), dw_l, dw_b1]
  refine dw_mono (P := fun τ => dG39 μ τ ∧ ∀ D, D < 2 ^ P.1 → ∃ v, τ (1, 39, 0) D = dn v ∧ dSp P B D v) ?_ fun τ hτ => dw_some.mpr hτ
  refine dw_up (2 ^ P.1 - 1) (by unfold px_N; omega) (fun t s => s.1 = dn (2 ^ P.1 - 1 - t) - 1 ∧ dG39 μ s.2 ∧ ∀ D, 2 ^ P.1 - 1 - t ≤ D → D < 2 ^ P.1 → ∃ v, s.2 (1, 39, 0) D = dn v ∧ dSp P B D v) (fun t s ht hI => ?_) (fun s hI => ?_) (Nat.zero_le _) ⟨rfl, fun j hj => ?_, fun D hD hD' => ?_⟩
  · obtain ⟨w, τ⟩ := s
    obtain ⟨rfl, f1, f2⟩ := hI
    dsimp only at f1 f2
    have e0 : dn (2 ^ P.1 - 1 - t) - 1 = dn (2 ^ P.1 - 1 - t - 1) := dn_sub (j := 1) (by omega)
    show dw (Mo_laysHeat_n20 τ (dn (2 ^ P.1 - 1 - t) - 1)) _
    unfold Mo_laysHeat_n20
    rw [e0, if_neg (dn_nn (by omega)), dw_b1]
    refine dw_mono (dset1 (D := 2 ^ P.1 - 1 - t - 1) (dM_39 h f1) hK hV hk hD2 hn (by omega) fun E e1 e2 => f2 E (by omega) e2) fun x ⟨v, v1, v2⟩ => ?_
    refine dw_gi (by omega) (by omega) ?_
    rw [dn_nat (by omega)]
    simp only [dw_l, dw_some, dR_l]
    refine ⟨?_, fun j hj => ?_, fun D hD hD' => ?_⟩
    · rw [Int32.sub_eq_add_neg, show 2 ^ P.1 - 1 - (t + 1) = 2 ^ P.1 - 1 - t - 1 by omega]
    · rw [← f1 j hj]
      funext x
      simp [px_up, hj]
    · rw [px_up_du]
      by_cases e : D = 2 ^ P.1 - 1 - t - 1
      · subst e
        rw [du_eq]
        exact ⟨v, v1, v2⟩
      · rw [du_ne e]
        exact f2 D (by omega) hD'
  · obtain ⟨w, τ⟩ := s
    obtain ⟨rfl, f1, f2⟩ := hI
    dsimp only at f1 f2
    show dw (Mo_laysHeat_n20 τ (dn (2 ^ P.1 - 1 - (2 ^ P.1 - 1)) - 1)) _
    unfold Mo_laysHeat_n20
    rw [show 2 ^ P.1 - 1 - (2 ^ P.1 - 1) = 0 by omega, if_pos (by decide)]
    simp only [dw_some, dR_r]
    exact ⟨f1, fun D hD => f2 D (by omega) hD⟩
  · funext x
    simp [px_up, hj]
  · have : D = 2 ^ P.1 - 1 := by omega
    subst this
    dsimp only
    rw [px_up_du, du_eq]
    refine ⟨0, rfl, by omega, fun h _ => ⟨fun _ => Nat.zero_le _, fun _ => hFe_0 fun o => ?_⟩⟩
    unfold dSR
    rw [Nat.testBit_two_pow_sub_one]
    by_cases c : o < P.1 <;> simp [c]
theorem dSp_c {D v a : Nat} (h : dSp P B D v) (ha : a < 268435456) (z : ∀ h, dFe P B (dSet' D) (dSR P D) h ↔ a ≤ h) : v = a := by
  obtain ⟨h1, h2⟩ := h
  have e1 : v ≤ a := (h2 a ha).mp ((z a).mpr (Nat.le_refl _))
  by_cases c : v < 268435456
  · have := (z v).mp ((h2 v c).mpr (Nat.le_refl _))
    omega
  · omega
theorem dSp_n {D v : Nat} (h : dSp P B D v) (z : ∀ h, ¬ dFe P B (dSet' D) (dSR P D) h) : v = 268435456 := by
  obtain ⟨h1, h2⟩ := h
  refine Classical.byContradiction fun c => ?_
  exact z v ((h2 v (by omega)).mpr (Nat.le_refl _))
/-- nobody is there yet -/
theorem dU_0 (hn : P.1 ≤ 12) : dRest P (dAll P.1) = dSet' 0 ∧ db (dAll P.1) = dSR P 0 := by
  have hb : ∀ o, db (dAll P.1) o = decide (o < P.1) := fun o => by
    by_cases c : o < 32
    · exact db_all hn c
    · rw [db_big (by omega)]; simp; omega
  constructor
  · funext o
    unfold dRest dSet'
    rw [hb, Nat.zero_testBit]; simp
  · funext o
    unfold dSR
    rw [hb, Nat.zero_testBit]; simp
theorem dG_heat (h : dI σ μ P p B I H f) (hD2 : dWD P) : dGt σ P p B I H f (F_PR_heat σ) (F_Mo_heat μ) := by
  unfold F_PR_heat F_Mo_heat
  have h := dI_th (v := 0) h
  rw [px_l]
  generalize px_up μ (0, 0, 0) 0 0 = μ at h
  have hn := h.W.wp.n
  have hp := h.pp
  obtain ⟨h1, h2⟩ := d2n hn
  rw [dGt, h.cp]
  obtain ⟨e1, e2⟩ := dU_0 (P := P) hn
  refine dw_v (r := dAll P.1) (by unfold F_Pl_allRails; rw [dn_nat (by omega), h.C.P.n]; rfl) ?_
  rw [dw_b1]
  refine dw_mono (dheat h.C h.ok.2.1 hp hn h.W.V h.W.K hD2 (x0 := dAll P.1) fun i hi z => by rw [db_all hn hi] at z; simpa using z) fun r hr => dw_some.mpr ?_
  rw [e1, e2] at hr
  rw [dw_b1]
  refine dw_mono (dlayH h.M h.ok.2.1 h.W.V h.W.K hD2 hn) fun τ ⟨f1, f2⟩ => ?_
  obtain ⟨v, v1, v2⟩ := f2 0 (by omega)
  have hI : dI σ τ P p B I H f := dI_try h (dF_refl 2 σ) ⟨fun a _ _ _ _ _ _ h39 => f1 _ (by simp [h39]), fun q _ _ _ => by rw [f1 _ (by simp)]⟩ fun x _ => by rw [f1 _ (by simp)]
  rw [v1]
  have hv := v2.1
  rcases hr with ⟨r1, r2⟩ | ⟨a, a1, a2, a3⟩
  · rw [dSp_n v2 r2, if_pos (show dn 268435456 = 268435456 from rfl)]
    exact dw_some.mpr ⟨r1, hI⟩
  · have ev := dSp_c v2 (by omega) a3
    rw [ev, if_neg (by rw [show (268435456 : Int32) = dn 268435456 from rfl, dn_inj (by omega) (by omega)]; omega)]
    exact dw_some.mpr ⟨a2, hI⟩
end G8
end
section
/-! the best order -/
def dCo (P : dP) (B : dB) (v D r : Nat) : Prop := r < P.1 ∧ dMay P D r ∧ dFe P B (dSet' (D ||| 2 ^ r)) (dSR P (D ||| 2 ^ r)) v
def dLp (c : Nat → Prop) (m : Nat) : Prop := c m ∧ ∀ j, j < m → ¬ c j
theorem dLp_1 {c : Nat → Prop} {m m' : Nat} (h : dLp c m) (h' : dLp c m') : m = m' := by
  rcases Nat.lt_trichotomy m m' with z | z | z
  · exact absurd h.1 (h'.2 m z)
  · exact z
  · exact absurd h'.1 (h.2 m' z)
theorem dLp_ex {c : Nat → Prop} : ∀ {n : Nat}, (∃ o, o < n ∧ c o) → ∃ m, m < n ∧ dLp c m := by
  intro n
  induction n with
  | zero => intro ⟨o, h, _⟩; exact absurd h (by omega)
  | succ n ih =>
    intro ⟨o, h1, h2⟩
    by_cases z : ∃ o, o < n ∧ c o
    · obtain ⟨m, m1, m2⟩ := ih z
      exact ⟨m, by omega, m2⟩
    · refine ⟨n, by omega, ?_, fun j hj y => z ⟨j, hj, y⟩⟩
      by_cases e : o = n
      · rw [← e]; exact h2
      · exact absurd ⟨o, by omega, h2⟩ z
def dOw (P : dP) (B : dB) (v : Nat) : Nat → Nat → Nat → Prop
  | 0, D, r => D = 0 ∧ r = 0
  | k + 1, D, r => ∃ D' r', dOw P B v k D' r' ∧ dLp (dCo P B v D') r ∧ D = D' ||| 2 ^ r
theorem dOw_1 {P : dP} {B : dB} {v : Nat} : ∀ k D r D' r', dOw P B v k D r → dOw P B v k D' r' → D = D' ∧ r = r' := by
  intro k
  induction k with
  | zero => intro D r D' r' ⟨a, b⟩ ⟨a', b'⟩; exact ⟨a.trans a'.symm, b.trans b'.symm⟩
  | succ k ih =>
    intro D r D' r' ⟨E, s, a, b, c⟩ ⟨E', s', a', b', c'⟩
    obtain ⟨e1, _⟩ := ih _ _ _ _ a a'
    subst e1
    have e2 := dLp_1 b b'
    subst e2
    exact ⟨c.trans c'.symm, rfl⟩
section G9
variable {σ σ' μ μ' : pxS} {P : dP} {k p f g : Nat} {B B' : dB} {I : Option dB} {H : List dB}
abbrev dOs (P : dP) (B : dB) (v k D : Nat) : Prop := (D < 2 ^ P.1) ∧ (dFe P B (dSet' D) (dSR P D) v) ∧ (dcn (dSR P D) P.1 + k = P.1)
theorem dOs.lt {P : dP} {B : dB} {v k D : Nat} (h0 : dOs P B v k D) : D < 2 ^ P.1 := h0.1
theorem dOs.fe {P : dP} {B : dB} {v k D : Nat} (h0 : dOs P B v k D) : dFe P B (dSet' D) (dSR P D) v := h0.2.1
theorem dOs.ct {P : dP} {B : dB} {v k D : Nat} (h0 : dOs P B v k D) : dcn (dSR P D) P.1 + k = P.1 := h0.2.2
theorem dOs_0 {v : Nat} (h : dFe P B (dSet' 0) (dSR P 0) v) (h1 : 1 ≤ 2 ^ P.1) : dOs P B v 0 0 := by
  refine ⟨by omega, h, ?_⟩
  have : ∀ m, m ≤ P.1 → dcn (dSR P 0) m = m := by
    intro m
    induction m with
    | zero => intro _; rfl
    | succ m ih =>
      intro hm
      unfold dcn
      rw [ih (by omega), if_pos (by unfold dSR; rw [Nat.zero_testBit]; simp; omega)]
  rw [this P.1 (Nat.le_refl _)]
  rfl
theorem dOs_in {v D r : Nat} : dSR P D r = true ↔ r < P.1 ∧ D.testBit r = false := by
  unfold dSR
  rw [Bool.and_eq_true]; simp
theorem dOs_ex {v D k : Nat} (h : dOs P B v k D) (hk : k < P.1) : ∃ r, r < P.1 ∧ dLp (dCo P B v D) r := by
  have hS : ∃ x, dSR P D x = true := by
    refine Classical.byContradiction fun z => ?_
    have : ∀ m, dcn (dSR P D) m = 0 := by
      intro m
      induction m with
      | zero => rfl
      | succ m ih =>
        unfold dcn
        rw [ih, if_neg fun y => z ⟨m, y⟩]
    have := this P.1
    have := h.ct
    omega
  obtain ⟨r, r1, r2, r3, r4, r5⟩ := (hFe_head hS).mp h.fe
  exact dLp_ex ⟨r, r2, r2, ⟨(dOs_in (v := v).mp r1).2, r3⟩, by rw [dSet_add, dSR_rem]; exact r5⟩
theorem dOs_s {v D k r : Nat} (h : dOs P B v k D) (hr : dLp (dCo P B v D) r) : dOs P B v (k + 1) (D ||| 2 ^ r) := by
  obtain ⟨⟨r1, r2, r3⟩, _⟩ := hr
  refine ⟨dor_lt h.lt r1, r3, ?_⟩
  have := h.ct
  rw [dSR_rem]
  have e : ∀ m, r < m → dcn (hRem (dSR P D) r) m + 1 = dcn (dSR P D) m := by
    intro m
    induction m with
    | zero => intro z; exact absurd z (by omega)
    | succ m ih =>
      intro hm
      unfold dcn
      by_cases e : r = m
      · subst e
        have e2 : dcn (hRem (dSR P D) r) r = dcn (dSR P D) r := by
          have a := dcn_le (f := hRem (dSR P D) r) (h := dSR P D) r fun i _ z => by
            unfold hRem at z
            rw [Bool.and_eq_true] at z
            exact z.1
          have b := dcn_le (f := dSR P D) (h := hRem (dSR P D) r) r fun i hi z => by
            unfold hRem
            rw [z]
            have : ¬ i = r := by omega
            simp [this]
          omega
        rw [e2, if_neg (by unfold hRem; simp), if_pos (dOs_in (v := v).mpr ⟨r1, r2.1⟩)]
      · have h1 := ih (by omega)
        have h2 : hRem (dSR P D) r m = dSR P D m := by
          unfold hRem
          have : ¬ m = r := fun z => e z.symm
          simp [this]
        rw [h2]
        omega
  have := e P.1 r1
  omega
/-- the reference's next one -/
theorem dnextM {v D k r : Nat} (h : dM μ P B) (hK : dK P B) (hV : dWV P) (hk : dWK P) (hD2 : dWD P) (hn : P.1 ≤ 12) (hv : v < 268435456) (h0 : μ (1, 39, 0) 0 = dn v) (ha : ∀ D, D < 2 ^ P.1 → ∃ v, μ (1, 39, 0) D = dn v ∧ dSp P B D v) (hs : dOs P B v k D) (hr : dLp (dCo P B v D) r) (a c : Int32) : dw (px_it (Mo_order_L53 μ a (dn D) c) px_N 0) (fun x => x = dn r) := by
  obtain ⟨h1, h2⟩ := d2n hn
  have hD := hs.lt
  have hrn := hr.1.1
  have body : ∀ t, t < P.1 → (dCo P B v D t → Mo_order_n53 μ a (dn D) (dn t) c = some (.inr (dn t))) ∧ (¬ dCo P B v D t → Mo_order_n53 μ a (dn D) (dn t) c = some (.inl (dn t + 1))) := fun t ht => by
    unfold Mo_order_n53 Mo_order_n90
    rcases dmay (D := D) h hD2 hn ht with ⟨m1, m2⟩ | ⟨m1, m2⟩
    · rw [m2, px_b1_s, if_neg (by decide), dheatAt h hK hV hk hn (by omega) ht, px_b1_s, dn_or (by omega) (by omega)]
      have hlt : D ||| 2 ^ t < 2 ^ P.1 := dor_lt hD ht
      obtain ⟨u, u1, u2, u3⟩ := ha (D ||| 2 ^ t) hlt
      have hc := dHs_39 hK hV hk hn ht (dSet' D)
      have hin : dHs P B (dSet' D) + dLd B t + dSg P t ≤ v := hFe_in (dOs_in (v := v).mpr ⟨ht, m1.1⟩) hs.fe
      rw [px_gi (by omega) (by omega), dn_nat (by omega), u1, dgreater, px_b1_s, h0]
      have eg : (dGx (dn (dHs P B (dSet' D) + dLd B t + dSg P t)) (dn u) ≤ dn v) ↔ u ≤ v := by
        rw [dGx_le, dn_le (by omega) (by omega), dn_le (by omega) (by omega)]
        exact ⟨fun z => z.2, fun z => ⟨hin, z⟩⟩
      by_cases z : u ≤ v
      · rw [if_pos (eg.mpr z)]
        exact ⟨fun _ => rfl, fun y => absurd ⟨ht, m1, (u3 v hv).mpr z⟩ y⟩
      · rw [if_neg (fun y => z (eg.mp y))]
        exact ⟨fun y => absurd ((u3 v hv).mp y.2.2) z, fun _ => rfl⟩
    · rw [m2, px_b1_s, if_pos rfl]
      exact ⟨fun y => absurd y.2.1 m1, fun _ => rfl⟩
  refine dw_up r (by unfold px_N; omega) (fun t s => s = dn t) (fun t s ht hI => ?_) (fun s hI => ?_) (Nat.zero_le _) rfl
  · subst hI
    show dw (Mo_order_n53 μ a (dn D) (dn t) c) _
    rw [(body t (by omega)).2 (hr.2 t ht)]
    simp only [dw_some, dR_l]
    exact dn_suc t
  · subst hI
    show dw (Mo_order_n53 μ a (dn D) (dn r) c) _
    rw [(body r hrn).1 hr.1]
    simp only [dw_some, dR_r]
/-- the class' next one -/
theorem dnextC {v D r : Nat} {x : Int32} (h : dC σ k p P B) (hK : dK P B) (hp : p < 2) (hV : dWV P) (hk : dWK P) (hD2 : dWD P) (hn : P.1 ≤ 12) (hv : v < 268435456) {j : Nat} (hs : dOs P B v j D) (hr : dLp (dCo P B v D) r) (hx : db x = dSR P D) : F_Or_firstThatFits σ k x (dn v) = some (dn r) := by
  obtain ⟨h1, h2⟩ := d2n hn
  have hD := hs.lt
  have hrn := hr.1.1
  suffices hh : dw (F_Or_firstThatFits σ k x (dn v)) (fun y => y = dn r) by
    obtain ⟨a, e, rfl⟩ := hh; exact e
  have hxi : ∀ i, db x i = true ↔ i < P.1 ∧ D.testBit i = false := fun i => by rw [hx]; exact dOs_in (v := v)
  have body : ∀ t, t < P.1 → dw (Or_firstThatFits_n8 σ k x (dn v) (dn p) (dn t)) (fun y => (dCo P B v D t ∧ y = .inr (0, dn t)) ∨ (¬ dCo P B v D t ∧ y = .inl (dn t + 1))) := fun t ht => by
    unfold Or_firstThatFits_n8 Or_firstThatFits_n42 Or_firstThatFits_n69
    rw [dn_nat (show p < 2147483648 by omega), h.P.n, if_neg (by rw [dn_le (by omega) (by omega)]; omega)]
    by_cases c : db x t = true
    · have ct := (hxi t).mp c
      rw [if_neg (fun z => by rw [db_sh0 (by omega), c] at z; exact absurd z (by decide))]
      refine dw_gi (by omega) (by omega) ?_
      rw [dn_nat (by omega), h.P.a 8 (by omega) t ht]
      have key : P.2.2.2 8 t &&& x = 0 ↔ ∀ o, dDi P t o = true → D.testBit o = true := by
        rw [dand0]
        constructor
        · intro z o ho
          have ho2 : o < 32 := by
            refine Classical.byContradiction fun y => ?_
            unfold dDi at ho
            rw [db_big (by omega)] at ho; exact absurd ho (by decide)
          cases e : D.testBit o with
          | true => rfl
          | false => exact absurd ⟨ho, (hxi o).mpr ⟨hD2 t ht o ho2 ho, e⟩⟩ (z o ho2)
        · intro z o ho y
          have := z o y.1
          rw [((hxi o).mp y.2).2] at this
          exact absurd this (by decide)
      by_cases c2 : P.2.2.2 8 t &&& x = 0
      · rw [if_pos c2, dw_b1]
        have hm : dMay P D t := ⟨ct.2, key.mp c2⟩
        have ex : db (x &&& ((1 <<< (dn t &&& 31)) ^^^ (-1))) = dSR P (D ||| 2 ^ t) := by rw [db_drop' (by omega), hx, dSR_rem]
        have eR : dRest P (x &&& ((1 <<< (dn t &&& 31)) ^^^ (-1))) = dSet' (D ||| 2 ^ t) := by
          funext o
          unfold dRest
          rw [ex]
          unfold dSR dSet'
          by_cases e : o < P.1
          · simp [e]
          · cases e2 : (D ||| 2 ^ t).testBit o with
            | false => simp [e]
            | true => exact absurd (dbit_n (dor_lt hD ht) e2) e
        refine dw_mono (dheat h hK hp hn hV hk hD2 (x0 := x &&& ((1 <<< (dn t &&& 31)) ^^^ (-1))) fun i hi z => by
          rw [ex] at z
          exact (dOs_in (v := v).mp z).1) fun r2 hr2 => ?_
        rw [eR, ex] at hr2
        rcases hr2 with ⟨_, z2⟩ | ⟨a, a1, a2, a3⟩
        · refine absurd ?_ (z2 (v + dLd B t))
          rw [dSet_add, dSR_rem]
          exact hFe_first hs.fe
        · rw [a2]
          by_cases c3 : v < a
          · rw [if_pos (by rw [dn_lt (by omega) (by omega)]; exact c3), dw_some]
            refine Or.inr ⟨fun z => ?_, rfl⟩
            have := (a3 v).mp z.2.2
            omega
          · rw [if_neg (by rw [dn_lt (by omega) (by omega)]; exact c3), dw_some]
            exact Or.inl ⟨⟨ht, hm, (a3 v).mpr (by omega)⟩, rfl⟩
      · rw [if_neg c2, dw_some]
        exact Or.inr ⟨fun z => c2 (key.mpr z.2.1.2), rfl⟩
    · rw [if_pos ((db_sh0 (by omega)).mpr (by simpa using c)), dw_some]
      exact Or.inr ⟨fun z => c ((hxi t).mpr ⟨ht, z.2.1.1⟩), rfl⟩
  unfold F_Or_firstThatFits
  rw [h.hp, dw_b1]
  refine dw_mono (P := fun e : Nat × Int32 => e = (0, dn r)) ?_ fun e he => by rw [he, if_pos rfl]; exact dw_some.mpr rfl
  refine dw_up r (by unfold px_N; omega) (fun t s => s = dn t) (fun t s ht hI => ?_) (fun s hI => ?_) (Nat.zero_le _) rfl
  · subst hI
    refine dw_mono (body t (by omega)) fun y hy => ?_
    rcases hy with ⟨z, _⟩ | ⟨_, z⟩
    · exact absurd z (hr.2 t ht)
    · rw [z]; exact dn_suc t
  · subst hI
    refine dw_mono (body r hrn) fun y hy => ?_
    rcases hy with ⟨_, z⟩ | ⟨z, _⟩
    · rw [z]; exact rfl
    · exact absurd hr.1 z
theorem dG_order (h : dI σ μ P p B I H f) (hD2 : dWD P) (w : Int32) : dGt σ P p B I H f (F_PR_order σ w) (F_Mo_order μ w) := by
  unfold F_PR_order F_Mo_order Mo_order_n17
  have h := dI_th (v := 0) h
  rw [px_l]
  generalize px_up μ (0, 0, 0) 0 0 = μ at h
  have hn := h.W.wp.n
  have hp := h.pp
  obtain ⟨h1, h2⟩ := d2n hn
  rcases dIr h w with ⟨i, hi, rfl, e1, e2⟩ | ⟨hno, e1, e2⟩
  · rw [e1, px_b1_s, if_neg (show ¬ (1 : Int32) = 0 by decide), if_neg (dn_nn (by omega)), dGt]
    obtain ⟨u1, u2⟩ := dU_0 (P := P) hn
    unfold F_Or_railAt
    rw [dw_b1]
    refine dw_v (dC_all h.C hp) ?_
    rw [dw_b1]
    refine dw_mono (dheat h.C h.ok.2.1 hp hn h.W.V h.W.K hD2 (x0 := dAll P.1) fun i hi z => by rw [db_all hn hi] at z; simpa using z) fun r hr => ?_
    rw [u1, u2] at hr
    obtain ⟨τ, eτ, f1, f2⟩ := dlayH h.M h.ok.2.1 h.W.V h.W.K hD2 hn
    have hτ := dM_39 h.M f1
    have hI : dI σ τ P p B I H f := dI_try h (dF_refl 2 σ) ⟨fun a _ _ _ _ _ _ h39 => f1 _ (by simp [h39]), fun q _ _ _ => by rw [f1 _ (by simp)]⟩ fun x _ => by rw [f1 _ (by simp)]
    rw [dM_n h.M, px_b1_s, if_pos (show dn i < dn P.1 by rw [dn_lt (by omega) (by omega)]; exact hi), eτ, px_b1_s]
    obtain ⟨v, v1, v2⟩ := f2 0 (by omega)
    have hv := v2.1
    rw [v1]
    rcases hr with ⟨r1, r2⟩ | ⟨a, a1, a2, a3⟩
    · rw [dSp_n v2 r2, if_pos (show dn 268435456 = 268435456 from rfl), dw_b1]
      refine dw_mono (P := fun e : Nat × Int32 => e = (1, -2)) ?_ fun e he => ?_
      · refine dw_it (fun _ s => s = (dAll P.1, -2, 0)) (fun k s hs => ?_) px_N 0 _ (by unfold px_N; omega) rfl
        subst hs
        show dw (Or_railAt_n21 σ 1 (dn i) (dAll P.1) r (-2) 0) _
        unfold Or_railAt_n21
        rw [if_neg (dn_nn (by omega)), if_neg (by decide), if_pos (by rw [r1]; decide)]
        simp only [dw_some, dR_r]
      · rw [he, if_neg (by decide)]
        exact dw_some.mpr (dw_some.mpr (dw_some.mpr ⟨rfl, hI⟩))
    · have ev := dSp_c v2 (by omega) a3
      subst ev
      rw [if_neg (by rw [show (268435456 : Int32) = dn 268435456 from rfl, dn_inj (by omega) (by omega)]; omega), a2]
      have s0 : dOs P B v 0 0 := dOs_0 ((a3 v).mpr (Nat.le_refl _)) h1
      rw [dw_b1]
      refine dw_mono (P := fun e : Nat × Int32 => e.1 = 1 ∧ ∃ D r, dOw P B v (i + 1) D r ∧ e.2 = dn r) ?_ fun e he => ?_
      · refine dw_up (i + 1) (by unfold px_N; omega) (fun t s => ∃ D r, dOw P B v t D r ∧ dOs P B v t D ∧ db s.1 = dSR P D ∧ s.2.1 = (if t = 0 then -2 else dn r) ∧ s.2.2 = dn t) (fun t s ht hI => ?_) (fun s hI => ?_) (Nat.zero_le _) ⟨0, 0, ⟨rfl, rfl⟩, s0, u2, rfl, rfl⟩
        · obtain ⟨x, w, z⟩ := s
          obtain ⟨D, r, o1, o2, o3, rfl, rfl⟩ := hI
          dsimp only at o3
          obtain ⟨r', r1, r2⟩ := dOs_ex o2 (by omega)
          show dw (Or_railAt_n21 σ 1 (dn i) x (dn v) _ (dn t)) _
          unfold Or_railAt_n21
          rw [if_neg (by rw [dn_lt (by omega) (by omega)]; omega), if_neg (by rw [show (12 : Int32) = dn 12 from rfl, dn_le (by omega) (by omega)]; omega), if_neg (dn_nn (by omega)), dnextC h.C h.ok.2.1 hp h.W.V h.W.K hD2 hn (by omega) o2 r2 o3, px_b1_s, if_pos (Int32.not_lt.mp (dn_nn (by omega)))]
          simp only [dw_some, dR_l]
          refine ⟨D ||| 2 ^ r', r', ⟨D, r, o1, r2, rfl⟩, dOs_s o2 r2, ?_, ?_, dn_suc t⟩
          · rw [db_drop' (by omega), o3, dSR_rem]
          · rw [if_neg (by omega)]
        · obtain ⟨x, w, z⟩ := s
          obtain ⟨D, r, o1, o2, o3, rfl, rfl⟩ := hI
          show dw (Or_railAt_n21 σ 1 (dn i) x (dn v) _ (dn (i + 1))) _
          unfold Or_railAt_n21
          rw [if_pos (by rw [dn_lt (by omega) (by omega)]; omega)]
          simp only [dw_some, dR_r]
          exact ⟨trivial, D, r, o1, by rw [if_neg (by omega)]⟩
      · obtain ⟨he1, D, r, o1, he2⟩ := he
        rw [if_neg (by rw [he1]; decide), dw_some, dw_some, dw_b1]
        refine dw_mono (P := fun x => ∃ D r, dOw P B v (i + 1) D r ∧ x = dn r) ?_ fun x ⟨D', r', p1, p2⟩ => ?_
        · refine dw_up (i + 1) (by unfold px_N; omega) (fun t s => ∃ D r, dOw P B v t D r ∧ dOs P B v t D ∧ s.1 = dn D ∧ s.2.1 = dn r ∧ s.2.2 = dn t) (fun t s ht hI => ?_) (fun s hI => ?_) (Nat.zero_le _) ⟨0, 0, ⟨rfl, rfl⟩, s0, rfl, rfl, rfl⟩
          · obtain ⟨x, w, z⟩ := s
            obtain ⟨D, r, o1, o2, rfl, rfl, rfl⟩ := hI
            obtain ⟨r', r1, r2⟩ := dOs_ex o2 (by omega)
            have hD := o2.lt
            show dw (Mo_order_n45 τ (dn i) (dn D) (dn r) (dn t)) _
            unfold Mo_order_n45
            rw [if_neg (by rw [dn_lt (by omega) (by omega)]; omega), dw_b1]
            refine dw_mono (dnextM hτ h.ok.2.1 h.W.V h.W.K hD2 hn (by omega) v1 f2 o2 r2 _ _) fun x hx => ?_
            subst hx
            simp only [dw_some, dR_l]
            exact ⟨D ||| 2 ^ r', r', ⟨D, r, o1, r2, rfl⟩, dOs_s o2 r2, dn_or (by omega) (by omega), rfl, dn_suc t⟩
          · obtain ⟨x, w, z⟩ := s
            obtain ⟨D, r, o1, o2, rfl, rfl, rfl⟩ := hI
            show dw (Mo_order_n45 τ (dn i) (dn D) (dn r) (dn (i + 1))) _
            unfold Mo_order_n45
            rw [if_pos (by rw [dn_lt (by omega) (by omega)]; omega)]
            simp only [dw_some, dR_r]
            exact ⟨D, r, o1, rfl⟩
        · rw [dw_some]
          refine ⟨?_, hI⟩
          have := (dOw_1 _ _ _ _ _ o1 p1).2
          dsimp only
          rw [he2, p2, this]
  · rw [e1, px_b1_s, if_pos rfl]
    rcases dn_cases w with z | ⟨j, hj, rfl⟩
    · rw [if_pos z]; exact dGt_2 rfl h
    · rw [if_neg (dn_nn hj), dM_n h.M, px_b1_s]
      have : ¬ j < P.1 := fun y => hno j y rfl
      rw [if_neg (by rw [dn_lt (by omega) (by omega)]; exact this)]
      exact dGt_2 rfl h
end G9
end
