section
/-! the reader: bytes and runs of them -/
def dpy (bt : Nat → Nat) (n a : Nat) : Int32 := if a < n then dn (bt a) else -1
def dLt (bt : Nat → Nat) (n a : Nat) : Bool := decide (a < n) && (decide (97 ≤ bt a) && decide (bt a ≤ 122))
def dDg (bt : Nat → Nat) (n a : Nat) : Bool := decide (a < n) && (decide (48 ≤ bt a) && decide (bt a ≤ 57))
def dBl (bt : Nat → Nat) (n a : Nat) : Bool := decide (a < n) && (decide (bt a = 10) || decide (bt a = 32))
def dRu (f : Nat → Bool) : Nat → Nat → Nat
  | 0, a => a
  | m + 1, a => if f a = true then dRu f m (a + 1) else a
theorem dRu_p {f : Nat → Bool} {n : Nat} (hf : ∀ x, n ≤ x → f x = false) : ∀ m a, n ≤ a + m → a ≤ dRu f m a ∧ (∀ x, a ≤ x → x < dRu f m a → f x = true) ∧ f (dRu f m a) = false ∧ dRu f m a ≤ max a n := by
  intro m
  induction m with
  | zero => intro a h; exact ⟨Nat.le_refl _, fun x h1 h2 => absurd h2 (by show ¬ x < a; omega), hf a (by omega), by show a ≤ _; omega⟩
  | succ m ih =>
    intro a h
    unfold dRu
    by_cases c : f a = true
    · rw [if_pos c]
      obtain ⟨h1, h2, h3, h4⟩ := ih (a + 1) (by omega)
      have han : a < n := by
        refine Classical.byContradiction fun z => ?_
        rw [hf a (by omega)] at c; exact absurd c (by decide)
      refine ⟨by omega, fun x x1 x2 => ?_, h3, by omega⟩
      by_cases e : x = a
      · rw [e]; exact c
      · exact h2 x (by omega) x2
    · rw [if_neg c]
      exact ⟨Nat.le_refl _, fun x h1 h2 => absurd h2 (by omega), by simpa using c, by omega⟩
/-- where a run ends -/
def dE (f : Nat → Bool) (n a : Nat) : Nat := dRu f n a
theorem dE_p {f : Nat → Bool} {n : Nat} (hf : ∀ x, n ≤ x → f x = false) (a : Nat) : a ≤ dE f n a ∧ (∀ x, a ≤ x → x < dE f n a → f x = true) ∧ f (dE f n a) = false ∧ dE f n a ≤ max a n := dRu_p hf n a (by omega)
theorem dBl_n {bt : Nat → Nat} {n : Nat} : ∀ x, n ≤ x → dBl bt n x = false := fun x hx => by
  unfold dBl
  have : ¬ x < n := by omega
  simp [this]
theorem dLt_n {bt : Nat → Nat} {n : Nat} : ∀ x, n ≤ x → dLt bt n x = false := fun x hx => by
  unfold dLt
  have : ¬ x < n := by omega
  simp [this]
theorem dDg_n {bt : Nat → Nat} {n : Nat} : ∀ x, n ≤ x → dDg bt n x = false := fun x hx => by
  unfold dDg
  have : ¬ x < n := by omega
  simp [this]
/-- the class' bytes, the reference's -/
abbrev dKB (σ : pxS) (bt : Nat → Nat) (n : Nat) : Prop := (n ≤ 700) ∧ (∀ t, t < n → bt t < 256 ∧ σ (5, 0, 0) t &&& 255 = dn (bt t)) ∧ (σ (6, 0, 0) 9 = dn n)
theorem dKB.hn {σ : pxS} {bt : Nat → Nat} {n : Nat} (h0 : dKB σ bt n) : n ≤ 700 := h0.1
theorem dKB.b {σ : pxS} {bt : Nat → Nat} {n : Nat} (h0 : dKB σ bt n) : ∀ t, t < n → bt t < 256 ∧ σ (5, 0, 0) t &&& 255 = dn (bt t) := h0.2.1
theorem dKB.l {σ : pxS} {bt : Nat → Nat} {n : Nat} (h0 : dKB σ bt n) : σ (6, 0, 0) 9 = dn n := h0.2.2
abbrev dKM (μ : pxS) (bt : Nat → Nat) (n : Nat) : Prop := (n ≤ 700) ∧ (∀ t, t < n → bt t < 256 ∧ μ (1, 1, 0) t = dn (bt t)) ∧ (μ (0, 0, 0) 17 = dn n)
theorem dKM.hn {μ : pxS} {bt : Nat → Nat} {n : Nat} (h0 : dKM μ bt n) : n ≤ 700 := h0.1
theorem dKM.b {μ : pxS} {bt : Nat → Nat} {n : Nat} (h0 : dKM μ bt n) : ∀ t, t < n → bt t < 256 ∧ μ (1, 1, 0) t = dn (bt t) := h0.2.1
theorem dKM.l {μ : pxS} {bt : Nat → Nat} {n : Nat} (h0 : dKM μ bt n) : μ (0, 0, 0) 17 = dn n := h0.2.2
section H1
variable {σ σ' μ μ' : pxS} {bt : Nat → Nat} {n a : Nat}
theorem dpeek (h : dKB σ bt n) (ha : σ (6, 0, 0) 10 = dn a) (ha2 : a < 2147483648) : F_Re_peekByte σ = some (dpy bt n a) := by
  have hn := h.hn
  unfold F_Re_peekByte Re_peekByte_n46 dpy
  rw [ha, h.l, if_neg (dn_nn ha2)]
  by_cases c : a < n
  · rw [if_neg (by rw [dn_le (by omega) (by omega)]; omega), if_neg (by rw [show (700 : Int32) = dn 700 from rfl, dn_le (by omega) (by omega)]; omega), px_gi (by omega) (by omega), dn_nat (by omega), (h.b a c).2, if_pos c]
  · rw [if_pos (by rw [dn_le (by omega) (by omega)]; omega), if_neg c]
theorem dhere (h : dKM μ bt n) (ha : μ (0, 0, 0) 18 = dn a) (ha2 : a < 2147483648) : F_Mo_here μ = some (dpy bt n a) := by
  have hn := h.hn
  unfold F_Mo_here dpy
  rw [ha, h.l]
  by_cases c : a < n
  · rw [if_neg (by rw [dn_le (by omega) (by omega)]; omega), px_gi (by omega) (by omega), dn_nat (by omega), (h.b a c).2, if_pos c]
  · rw [if_pos (by rw [dn_le (by omega) (by omega)]; omega), if_neg c]
theorem dpy_lt (hb : ∀ t, t < n → bt t < 256) : (∀ τ, F_Re_isLetter τ (dpy bt n a) = some (if dLt bt n a = true then 1 else 0)) ∧ (∀ τ, F_Mo_isSmall τ (dpy bt n a) = some (if dLt bt n a = true then 1 else 0)) := by
  have key : (dpy bt n a < 97 ∨ 122 < dpy bt n a) ↔ ¬ dLt bt n a = true := by
    unfold dpy dLt
    by_cases c : a < n
    · have := hb a c
      rw [if_pos c, show (97 : Int32) = dn 97 from rfl, show (122 : Int32) = dn 122 from rfl, dn_lt (by omega) (by omega), dn_lt (by omega) (by omega)]
      simp [c]; omega
    · rw [if_neg c]
      simp [c]
  constructor
  · intro τ
    unfold F_Re_isLetter Re_isLetter_n16
    by_cases c1 : dpy bt n a < 97
    · rw [if_pos c1, if_neg (key.mp (Or.inl c1))]
    · rw [if_neg c1]
      by_cases c2 : 122 < dpy bt n a
      · rw [if_pos c2, if_neg (key.mp (Or.inr c2))]
      · rw [if_neg c2]
        have : dLt bt n a = true := by
          refine Classical.byContradiction fun z => ?_
          exact (key.mpr z).elim c1 c2
        rw [if_pos this]
  · intro τ
    unfold F_Mo_isSmall Mo_isSmall_n16
    by_cases c1 : dpy bt n a < 97
    · rw [if_pos c1, if_neg (key.mp (Or.inl c1))]
    · rw [if_neg c1]
      by_cases c2 : 122 < dpy bt n a
      · rw [if_pos c2, if_neg (key.mp (Or.inr c2))]
      · rw [if_neg c2]
        have : dLt bt n a = true := by
          refine Classical.byContradiction fun z => ?_
          exact (key.mpr z).elim c1 c2
        rw [if_pos this]
theorem dpy_dg (hb : ∀ t, t < n → bt t < 256) : (∀ τ, F_Re_isDigit τ (dpy bt n a) = some (if dDg bt n a = true then 1 else 0)) ∧ (∀ τ, F_Mo_isDigit τ (dpy bt n a) = some (if dDg bt n a = true then 1 else 0)) := by
  have key : (dpy bt n a < 48 ∨ 57 < dpy bt n a) ↔ ¬ dDg bt n a = true := by
    unfold dpy dDg
    by_cases c : a < n
    · have := hb a c
      rw [if_pos c, show (48 : Int32) = dn 48 from rfl, show (57 : Int32) = dn 57 from rfl, dn_lt (by omega) (by omega), dn_lt (by omega) (by omega)]
      simp [c]; omega
    · rw [if_neg c]
      simp [c]
  constructor
  · intro τ
    unfold F_Re_isDigit Re_isDigit_n16
    by_cases c1 : dpy bt n a < 48
    · rw [if_pos c1, if_neg (key.mp (Or.inl c1))]
    · rw [if_neg c1]
      by_cases c2 : 57 < dpy bt n a
      · rw [if_pos c2, if_neg (key.mp (Or.inr c2))]
      · rw [if_neg c2]
        have : dDg bt n a = true := by
          refine Classical.byContradiction fun z => ?_
          exact (key.mpr z).elim c1 c2
        rw [if_pos this]
  · intro τ
    unfold F_Mo_isDigit Mo_isDigit_n16
    by_cases c1 : dpy bt n a < 48
    · rw [if_pos c1, if_neg (key.mp (Or.inl c1))]
    · rw [if_neg c1]
      by_cases c2 : 57 < dpy bt n a
      · rw [if_pos c2, if_neg (key.mp (Or.inr c2))]
      · rw [if_neg c2]
        have : dDg bt n a = true := by
          refine Classical.byContradiction fun z => ?_
          exact (key.mpr z).elim c1 c2
        rw [if_pos this]
theorem dpy_bl (hb : ∀ t, t < n → bt t < 256) : (dpy bt n a = 10 ∨ dpy bt n a = 32) ↔ dBl bt n a = true := by
  unfold dpy dBl
  by_cases c : a < n
  · have := hb a c
    rw [if_pos c, show (10 : Int32) = dn 10 from rfl, show (32 : Int32) = dn 32 from rfl, dn_inj (by omega) (by omega), dn_inj (by omega) (by omega)]
    simp [c]
  · rw [if_neg c]
    simp [c]
/-- the reader's fields qs alone change -/
def d6 (qs : List Nat) (σ σ' : pxS) : Prop := (∀ q, q ∉ qs → σ' (6, 0, 0) q = σ (6, 0, 0) q) ∧ ∀ j, j ≠ (6, 0, 0) → σ' j = σ j
theorem d6_refl {qs : List Nat} : d6 qs σ σ := ⟨fun _ _ => rfl, fun _ _ => rfl⟩
theorem d6_trans {qs : List Nat} {σ'' : pxS} (h : d6 qs σ σ') (h' : d6 qs σ' σ'') : d6 qs σ σ'' := ⟨fun q hq => (h'.1 q hq).trans (h.1 q hq), fun j hj => (h'.2 j hj).trans (h.2 j hj)⟩
theorem d6_up {qs : List Nat} {q : Nat} {v : Int32} (hq : q ∈ qs) : d6 qs σ (px_up σ (6, 0, 0) q v) := ⟨fun x hx => by
  have : x ≠ q := fun e => hx (e ▸ hq)
  simp [px_up, this], fun j hj => by funext x; simp [px_up, hj]⟩
theorem d6_le {qs qs' : List Nat} (h : d6 qs σ σ') (hs : ∀ q ∈ qs, q ∈ qs') : d6 qs' σ σ' := ⟨fun q hq => h.1 q fun z => hq (hs q z), h.2⟩
theorem up_6 {q q' : Nat} {v : Int32} : px_up σ (6, 0, 0) q v (6, 0, 0) q' = if q' = q then v else σ (6, 0, 0) q' := by simp [px_up]
theorem up_6o {q : Nat} {v : Int32} {j : pxI} (h : j ≠ (6, 0, 0)) : px_up σ (6, 0, 0) q v j = σ j := by
  funext x
  simp [px_up, h]
theorem dKB_6 {qs : List Nat} (h : dKB σ bt n) (h9 : 9 ∉ qs) (g : d6 qs σ σ') : dKB σ' bt n := ⟨h.hn, fun t ht => by rw [g.2 _ (by simp)]; exact h.b t ht, by rw [g.1 _ h9]; exact h.l⟩
theorem dskipC (h : dKB σ bt n) (ha : σ (6, 0, 0) 10 = dn a) (ha2 : a < 1000000) : dw (F_Re_skipBlanks σ) (fun σ' => σ' (6, 0, 0) 10 = dn (dE (dBl bt n) n a) ∧ d6 [10] σ σ') := by
  have hn := h.hn
  have hb := fun t ht => (h.b t ht).1
  obtain ⟨e1, e2, e3, e4⟩ := dE_p (f := dBl bt n) (n := n) dBl_n a
  unfold F_Re_skipBlanks
  refine dw_v (dpeek h ha (by omega)) ?_
  rw [dw_b1]
  refine dw_mono (P := fun σ' => σ' (6, 0, 0) 10 = dn (dE (dBl bt n) n a) ∧ d6 [10] σ σ') ?_ fun e he => dw_some.mpr he
  refine dw_up (dE (dBl bt n) n a - a) (by unfold px_N; omega) (fun t s => s.1 = dpy bt n (a + t) ∧ s.2.1 = dn t ∧ s.2.2 (6, 0, 0) 10 = dn (a + t) ∧ d6 [10] σ s.2.2) (fun t s ht hI => ?_) (fun s hI => ?_) (Nat.zero_le _) ⟨rfl, rfl, ha, d6_refl⟩
  · obtain ⟨c, w, τ⟩ := s
    obtain ⟨rfl, rfl, h1, h2⟩ := hI
    dsimp only at h1 h2
    have hbl := e2 (a + t) (by omega) (by omega)
    have hlt : a + t < n := by
      refine Classical.byContradiction fun z => ?_
      rw [dBl_n _ (by omega)] at hbl; exact absurd hbl (by decide)
    have hτ := dKB_6 h (by simp) h2
    show dw (Re_skipBlanks_n7 τ (dpy bt n (a + t)) (dn t)) _
    unfold Re_skipBlanks_n7
    rw [if_neg (by rw [show (700 : Int32) = dn 700 from rfl, dn_le (by omega) (by omega)]; omega)]
    have go : ∀ {QQ : pxS → Prop}, dw (Re_skipBlanks_n26 τ (dn t)) (dR (fun s => s.1 = dpy bt n (a + (t + 1)) ∧ s.2.1 = dn (t + 1) ∧ s.2.2 (6, 0, 0) 10 = dn (a + (t + 1)) ∧ d6 [10] σ s.2.2) QQ) := by
      intro QQ
      unfold Re_skipBlanks_n26
      rw [dw_l, h1, dn_suc]
      have k1 : dKB (px_up τ (6, 0, 0) 10 (dn (a + t + 1))) bt n := dKB_6 hτ (qs := [10]) (by simp) (d6_up (by simp))
      refine dw_v (dpeek k1 (by rw [up_6, if_pos rfl]) (by omega)) ?_
      simp only [dw_some, dR_l]
      exact ⟨rfl, dn_suc t, by rw [up_6, if_pos rfl]; rfl, d6_trans h2 (d6_up (by simp))⟩
    rcases (dpy_bl hb).mpr hbl with z | z
    · rw [if_pos z]; exact go
    · by_cases z2 : dpy bt n (a + t) = 10
      · rw [if_pos z2]; exact go
      · rw [if_neg z2, if_pos z]; exact go
  · obtain ⟨c, w, τ⟩ := s
    obtain ⟨rfl, rfl, h1, h2⟩ := hI
    dsimp only at h1 h2
    rw [show a + (dE (dBl bt n) n a - a) = dE (dBl bt n) n a by omega] at h1
    show dw (Re_skipBlanks_n7 τ (dpy bt n (a + (dE (dBl bt n) n a - a))) (dn (dE (dBl bt n) n a - a))) _
    rw [show a + (dE (dBl bt n) n a - a) = dE (dBl bt n) n a by omega]
    unfold Re_skipBlanks_n7
    have hno : ¬ (dpy bt n (dE (dBl bt n) n a) = 10 ∨ dpy bt n (dE (dBl bt n) n a) = 32) := fun z => by
      have := (dpy_bl hb).mp z
      rw [e3] at this; exact absurd this (by decide)
    by_cases c7 : (700 : Int32) ≤ dn (dE (dBl bt n) n a - a)
    · rw [if_pos c7]; simp only [dw_some, dR_r]; exact ⟨h1, h2⟩
    · rw [if_neg c7, if_neg (fun z => hno (Or.inl z)), if_neg (fun z => hno (Or.inr z))]
      simp only [dw_some, dR_r]; exact ⟨h1, h2⟩
/-- the reference's fields qs alone change -/
def d0 (qs : List Nat) (μ μ' : pxS) : Prop := (∀ q, q ∉ qs → μ' (0, 0, 0) q = μ (0, 0, 0) q) ∧ ∀ j, j ≠ (0, 0, 0) → μ' j = μ j
theorem d0_refl {qs : List Nat} : d0 qs μ μ := ⟨fun _ _ => rfl, fun _ _ => rfl⟩
theorem d0_trans {qs : List Nat} {μ'' : pxS} (h : d0 qs μ μ') (h' : d0 qs μ' μ'') : d0 qs μ μ'' := ⟨fun q hq => (h'.1 q hq).trans (h.1 q hq), fun j hj => (h'.2 j hj).trans (h.2 j hj)⟩
theorem d0_up {qs : List Nat} {q : Nat} {v : Int32} (hq : q ∈ qs) : d0 qs μ (px_up μ (0, 0, 0) q v) := ⟨fun x hx => by
  have : x ≠ q := fun e => hx (e ▸ hq)
  simp [px_up, this], fun j hj => by funext x; simp [px_up, hj]⟩
theorem d0_le {qs qs' : List Nat} (h : d0 qs μ μ') (hs : ∀ q ∈ qs, q ∈ qs') : d0 qs' μ μ' := ⟨fun q hq => h.1 q fun z => hq (hs q z), h.2⟩
theorem dKM_0 {qs : List Nat} (h : dKM μ bt n) (h17 : 17 ∉ qs) (g : d0 qs μ μ') : dKM μ' bt n := ⟨h.hn, fun t ht => by rw [g.2 _ (by simp)]; exact h.b t ht, by rw [g.1 _ h17]; exact h.l⟩
/-- a run of the reference over what f tells, one on -/
theorem drunM {f : Nat → Bool} {F : pxS → Option (pxS ⊕ pxS)} (h : dKM μ bt n) (ha : μ (0, 0, 0) 18 = dn a) (ha2 : a < 1000000) (hf : ∀ x, n ≤ x → f x = false) (hs : ∀ (τ : pxS) x, dKM τ bt n → τ (0, 0, 0) 18 = dn x → x < 2000000 → F τ = if f x = true then some (.inl (px_up τ (0, 0, 0) 18 (dn (x + 1)))) else some (.inr τ)) : dw (px_it F px_N μ) (fun μ' => μ' (0, 0, 0) 18 = dn (dE f n a) ∧ d0 [18] μ μ') := by
  have hn := h.hn
  obtain ⟨e1, e2, e3, e4⟩ := dE_p (f := f) (n := n) hf a
  refine dw_up (dE f n a - a) (by unfold px_N; omega) (fun t s => s (0, 0, 0) 18 = dn (a + t) ∧ d0 [18] μ s) (fun t s ht hI => ?_) (fun s hI => ?_) (Nat.zero_le _) ⟨ha, d0_refl⟩
  · obtain ⟨h1, h2⟩ := hI
    rw [hs s (a + t) (dKM_0 h (by simp) h2) h1 (by omega), if_pos (e2 (a + t) (by omega) (by omega))]
    simp only [dw_some, dR_l]
    exact ⟨by rw [up_0, if_pos rfl]; rfl, d0_trans h2 (d0_up (by simp))⟩
  · obtain ⟨h1, h2⟩ := hI
    rw [show a + (dE f n a - a) = dE f n a by omega] at h1
    rw [hs s (dE f n a) (dKM_0 h (by simp) h2) h1 (by omega), if_neg (by rw [e3]; decide)]
    simp only [dw_some, dR_r]
    exact ⟨h1, h2⟩
theorem dskipM (h : dKM μ bt n) (ha : μ (0, 0, 0) 18 = dn a) (ha2 : a < 1000000) : dw (px_it (Mo_token_L0) px_N μ) (fun μ' => μ' (0, 0, 0) 18 = dn (dE (dBl bt n) n a) ∧ d0 [18] μ μ') := by
  have hb := fun t ht => (h.b t ht).1
  refine drunM h ha ha2 dBl_n fun τ x hτ hx hx2 => ?_
  show Mo_token_n0 τ = _
  unfold Mo_token_n0 Mo_token_n18
  rw [dhere hτ hx (by omega), px_b1_s, px_b1_s, hx, dn_suc]
  by_cases c : dBl bt n x = true
  · rw [if_pos c]
    rcases (dpy_bl hb).mpr c with z | z
    · rw [if_pos z]; rfl
    · by_cases z2 : dpy bt n x = 10
      · rw [if_pos z2]; rfl
      · rw [if_neg z2, if_pos z]; rfl
  · rw [if_neg c, if_neg (fun z => c ((dpy_bl hb).mp (Or.inl z))), if_neg (fun z => c ((dpy_bl hb).mp (Or.inr z)))]
theorem dsmallM (h : dKM μ bt n) (ha : μ (0, 0, 0) 18 = dn a) (ha2 : a < 1000000) : dw (px_it (Mo_token_L64) px_N μ) (fun μ' => μ' (0, 0, 0) 18 = dn (dE (dLt bt n) n a) ∧ d0 [18] μ μ') := by
  have hb := fun t ht => (h.b t ht).1
  refine drunM h ha ha2 dLt_n fun τ x hτ hx hx2 => ?_
  show Mo_token_n64 τ = _
  unfold Mo_token_n64
  rw [dhere hτ hx (by omega), px_b1_s, (dpy_lt hb).2, px_b1_s, hx, dn_suc]
  by_cases c : dLt bt n x = true
  · rw [if_pos c, if_neg (by decide), if_pos c]; rfl
  · rw [if_neg c, if_pos rfl, if_neg c]
end H1
end
section
/-! names and words -/
def dNm (x : Nat → Nat) : Nat → Nat
  | 0 => 0
  | k + 1 => dNm x k * 32 + x k
theorem dNm_6 {x : Nat → Nat} : dNm x 6 = ((((x 0 * 32 + x 1) * 32 + x 2) * 32 + x 3) * 32 + x 4) * 32 + x 5 := by
  show (((((0 * 32 + x 0) * 32 + x 1) * 32 + x 2) * 32 + x 3) * 32 + x 4) * 32 + x 5 = _
  rw [Nat.zero_mul, Nat.zero_add]
theorem dNm_inj {x y : Nat → Nat} (hx : ∀ j, x j < 32) (hy : ∀ j, y j < 32) (h : dNm x 6 = dNm y 6) : ∀ j, j < 6 → x j = y j := by
  rw [dNm_6, dNm_6] at h
  have := hx 0; have := hx 1; have := hx 2; have := hx 3; have := hx 4; have := hx 5
  have := hy 0; have := hy 1; have := hy 2; have := hy 3; have := hy 4; have := hy 5
  have h5 : x 5 = y 5 := by omega
  have h4 : x 4 = y 4 := by omega
  have h3 : x 3 = y 3 := by omega
  have h2 : x 2 = y 2 := by omega
  have h1 : x 1 = y 1 := by omega
  have h0 : x 0 = y 0 := by omega
  intro j hj
  have : j = 0 ∨ j = 1 ∨ j = 2 ∨ j = 3 ∨ j = 4 ∨ j = 5 := by omega
  rcases this with rfl | rfl | rfl | rfl | rfl | rfl <;> assumption
theorem dNm_lt {x : Nat → Nat} (hx : ∀ j, x j < 32) : ∀ k, dNm x k < 32 ^ k := by
  intro k
  induction k with
  | zero => exact Nat.one_pos
  | succ k ih =>
    have := hx k
    show dNm x k * 32 + x k < 32 ^ (k + 1)
    rw [Nat.pow_succ]
    omega
/-- no more letters: what is left is shifted -/
theorem dNm_0 {x : Nat → Nat} {m : Nat} (h : ∀ j, m ≤ j → x j = 0) : ∀ d, dNm x (m + d) = dNm x m * 32 ^ d := by
  intro d
  induction d with
  | zero => show dNm x m = dNm x m * 1; omega
  | succ d ih =>
    show dNm x (m + d) * 32 + x (m + d) = _
    rw [ih, h _ (by omega), Nat.pow_succ, Nat.mul_assoc, Nat.add_zero]
theorem dNm_c {x y : Nat → Nat} : ∀ k, (∀ j, j < k → x j = y j) → dNm x k = dNm y k := by
  intro k
  induction k with
  | zero => intro _; rfl
  | succ k ih => intro h; show dNm x k * 32 + x k = dNm y k * 32 + y k; rw [ih fun j hj => h j (by omega), h k (by omega)]
def dWords : List (List Nat) := [[18, 1, 9, 12], [14, 5, 5, 4, 19], [15, 14], [15, 6, 6], [23, 1, 9, 20], [7, 21, 1, 18, 4], [4, 18, 15, 15, 16], [6, 1, 12, 12], [12, 15, 23], [6, 9, 12, 20, 5, 18], [18, 5, 20, 18, 25], [2, 21, 4, 7, 5, 20], [19, 5, 5, 4], [19, 15, 21, 18, 3, 5]]
def wX (k j : Nat) : Nat := (dWords.getD k []).getD j 0
def wL (k : Nat) : Nat := (dWords.getD k []).length
def wS : List Nat := [0, 5, 11, 14, 18, 23, 29, 35, 40, 44, 51, 57, 64, 69, 76]
def wP (k : Nat) : Nat := wS.getD k 76
theorem wL_6 : ∀ k, k < 14 → 2 ≤ wL k ∧ wL k ≤ 6 := by
  have : ∀ k : Fin 14, 2 ≤ wL k.val ∧ wL k.val ≤ 6 := by decide
  exact fun k hk => this ⟨k, hk⟩
theorem wP_n : ∀ k, k < 14 → wP (k + 1) = wP k + wL k + 1 ∧ wP k + wL k < 76 := by
  have : ∀ k : Fin 14, wP (k.val + 1) = wP k.val + wL k.val + 1 ∧ wP k.val + wL k.val < 76 := by decide
  exact fun k hk => this ⟨k, hk⟩
theorem wX_b : ∀ k j, k < 14 → j < wL k → 1 ≤ wX k j ∧ wX k j ≤ 26 ∧ px_chr 0 (wP k + j) = dn (wX k j + 96) := by
  have : ∀ k : Fin 14, ∀ j : Fin 6, j.val < wL k.val → 1 ≤ wX k.val j.val ∧ wX k.val j.val ≤ 26 ∧ px_chr 0 (wP k.val + j.val) = dn (wX k.val j.val + 96) := by decide +kernel
  intro k j hk hj
  exact this ⟨k, hk⟩ ⟨j, by have := (wL_6 k hk).2; omega⟩ hj
theorem wX_e : ∀ k, k < 14 → px_chr 0 (wP k + wL k) = 32 := by
  have : ∀ k : Fin 14, px_chr 0 (wP k.val + wL k.val) = 32 := by decide +kernel
  exact fun k hk => this ⟨k, hk⟩
theorem wX_0 {k j : Nat} (h : wL k ≤ j) : wX k j = 0 := by
  unfold wX wL at *
  rw [List.getD_eq_getElem?_getD, List.getElem?_eq_none h]
  rfl
theorem wX_32 {k j : Nat} (hk : k < 14) : wX k j < 32 := by
  by_cases c : j < wL k
  · have := wX_b k j hk c; omega
  · rw [wX_0 (by omega)]; omega
theorem wlet : ∀ k, k < 14 → F_Re_lettersOf (fun _ _ => 0) (dn k) = some (dn (dNm (wX k) 6)) := by
  have : ∀ k : Fin 14, F_Re_lettersOf (fun _ _ => 0) (dn k.val) = some (dn (dNm (wX k.val) 6)) := by decide +kernel
  exact fun k hk => this ⟨k, hk⟩
/-! what stands at [a, e) -/
def dX (bt : Nat → Nat) (a e j : Nat) : Nat := if a + j < e then bt (a + j) - 96 else 0
def dMt (bt : Nat → Nat) (a e k : Nat) : Bool := decide (e = a + wL k) && (List.range (wL k)).all fun j => decide (bt (a + j) = wX k j + 96)
theorem dMt_i {bt : Nat → Nat} {a e k : Nat} : dMt bt a e k = true ↔ e = a + wL k ∧ ∀ j, j < wL k → bt (a + j) = wX k j + 96 := by
  unfold dMt
  rw [Bool.and_eq_true, List.all_eq_true]
  simp only [decide_eq_true_eq, List.mem_range]
/-- a word's code tells it -/
theorem dMt_c {bt : Nat → Nat} {a e k : Nat} (hk : k < 14) (hae : a ≤ e) (he : e ≤ a + 6) (hl : ∀ x, a ≤ x → x < e → 97 ≤ bt x ∧ bt x ≤ 122) : dMt bt a e k = true ↔ dNm (wX k) 6 = dNm (dX bt a e) 6 := by
  have h32 : ∀ j, dX bt a e j < 32 := fun j => by
    unfold dX
    by_cases c : a + j < e
    · have := hl (a + j) (by omega) c
      rw [if_pos c]; omega
    · rw [if_neg c]; omega
  obtain ⟨l1, l2⟩ := wL_6 k hk
  rw [dMt_i]
  constructor
  · intro ⟨h1, h2⟩
    refine dNm_c 6 fun j _ => ?_
    unfold dX
    by_cases c : j < wL k
    · rw [if_pos (by omega), h2 j c]; omega
    · rw [if_neg (by omega), wX_0 (by omega)]
  · intro h
    have hj := dNm_inj (fun j => wX_32 hk) h32 h
    have hlen : e = a + wL k := by
      rcases Nat.lt_trichotomy e (a + wL k) with z | z | z
      · have := hj (e - a) (by omega)
        have h0 : dX bt a e (e - a) = 0 := by unfold dX; rw [if_neg (by omega)]
        have := (wX_b k (e - a) hk (by omega)).1
        omega
      · exact z
      · have := hj (wL k) (by omega)
        rw [wX_0 (Nat.le_refl _)] at this
        unfold dX at this
        rw [if_pos (by omega)] at this
        have := hl (a + wL k) (by omega) (by omega)
        omega
    refine ⟨hlen, fun j hjl => ?_⟩
    have := hj j (by omega)
    unfold dX at this
    rw [if_pos (by omega)] at this
    have := hl (a + j) (by omega) (by omega)
    omega
/-- the language's word that it is; -1 -/
def dWx (M : Nat → Bool) : Int32 := match (List.range 14).find? M with
  | some i => dn i
  | none => -1
theorem dWx_p {M : Nat → Bool} {r : Int32} (h : (∃ i, i < 14 ∧ r = dn i ∧ M i = true ∧ ∀ j, j < i → M j = false) ∨ (r = -1 ∧ ∀ j, j < 14 → M j = false)) : r = dWx M := by
  unfold dWx
  rcases h with ⟨i, h1, h2, h3, h4⟩ | ⟨h1, h2⟩
  · have : (List.range 14).find? M = some i := by
      rw [List.find?_range_eq_some]
      exact ⟨h3, List.mem_range.mpr h1, fun j hj => by rw [h4 j hj]; rfl⟩
    rw [this, h2]
  · have : (List.range 14).find? M = none := by
      rw [List.find?_eq_none]
      intro x hx
      rw [h2 x (List.mem_range.mp hx)]; decide
    rw [this, h1]
theorem dWx_c {M : Nat → Bool} : (∃ i, i < 14 ∧ dWx M = dn i) ∨ dWx M = -1 := by
  unfold dWx
  cases e : (List.range 14).find? M with
  | none => exact Or.inr rfl
  | some i => exact Or.inl ⟨i, List.mem_range.mp (List.mem_of_find?_eq_some e), rfl⟩
/-! numbers -/
def dVc (bt : Nat → Nat) (a : Nat) : Nat → Nat
  | 0 => 0
  | t + 1 => min 1000000 (dVc bt a t * 10 + (bt (a + t) - 48))
def dVr (bt : Nat → Nat) (a : Nat) : Nat → Nat
  | 0 => 0
  | t + 1 => if dVr bt a t ≤ 999999 then 10 * dVr bt a t + (bt (a + t) - 48) else dVr bt a t
theorem dV_r {bt : Nat → Nat} {a : Nat} : ∀ t, (∀ x, a ≤ x → x < a + t → bt x ≤ 57) → dVc bt a t ≤ 1000000 ∧ dVr bt a t < 20000000 ∧ (dVc bt a t < 1000000 → dVr bt a t = dVc bt a t) ∧ (dVc bt a t = 1000000 → 1000000 ≤ dVr bt a t) := by
  intro t
  induction t with
  | zero => intro _; exact ⟨by show 0 ≤ _; omega, by show 0 < _; omega, fun _ => rfl, fun z => absurd z (by show ¬ 0 = _; omega)⟩
  | succ t ih =>
    intro h
    obtain ⟨h1, h2, h3, h4⟩ := ih fun x a b => h x a (by omega)
    have hb := h (a + t) (by omega) (by omega)
    unfold dVc dVr
    by_cases c : dVr bt a t ≤ 999999
    · rw [if_pos c]
      refine ⟨by omega, by omega, fun z => by omega, fun z => by omega⟩
    · rw [if_neg c]
      refine ⟨by omega, by omega, fun z => by omega, fun z => by omega⟩
section H2
variable {σ σ' μ μ' : pxS} {bt : Nat → Nat} {n a : Nat}
theorem dLt_b {x : Nat} (h : dLt bt n x = true) : x < n ∧ 97 ≤ bt x ∧ bt x ≤ 122 := by
  unfold dLt at h
  simpa using h
theorem dDg_b {x : Nat} (h : dDg bt n x = true) : x < n ∧ 48 ≤ bt x ∧ bt x ≤ 57 := by
  unfold dDg at h
  simpa using h
theorem dpy_n {x : Nat} (h : x < n) : dpy bt n x = dn (bt x) := if_pos h
/-- the class: a number -/
theorem dnumC (h : dKB σ bt n) (ha : σ (6, 0, 0) 10 = dn a) (hv : σ (6, 0, 0) 12 = 0) (ha2 : a < 1000000) : dw (F_Re_cutNumber σ) (fun σ' => σ' (6, 0, 0) 10 = dn (dE (dDg bt n) n a) ∧ σ' (6, 0, 0) 11 = 3 ∧ σ' (6, 0, 0) 12 = dn (dVc bt a (dE (dDg bt n) n a - a)) ∧ d6 [10, 11, 12] σ σ') := by
  have hn := h.hn
  have hb := fun t ht => (h.b t ht).1
  obtain ⟨e1, e2, e3, e4⟩ := dE_p (f := dDg bt n) (n := n) dDg_n a
  unfold F_Re_cutNumber
  refine dw_v (dpeek h ha (by omega)) ?_
  rw [dw_b1]
  refine dw_mono (P := fun σ' => σ' (6, 0, 0) 10 = dn (dE (dDg bt n) n a) ∧ σ' (6, 0, 0) 12 = dn (dVc bt a (dE (dDg bt n) n a - a)) ∧ d6 [10, 12] σ σ') ?_ fun e ⟨g1, g2, g3⟩ => ?_
  · refine dw_up (dE (dDg bt n) n a - a) (by unfold px_N; omega) (fun t s => s.1 = dpy bt n (a + t) ∧ s.2.1 = dn t ∧ s.2.2 (6, 0, 0) 10 = dn (a + t) ∧ s.2.2 (6, 0, 0) 12 = dn (dVc bt a t) ∧ d6 [10, 12] σ s.2.2) (fun t s ht hI => ?_) (fun s hI => ?_) (Nat.zero_le _) ⟨rfl, rfl, ha, hv, d6_refl⟩
    · obtain ⟨c, w, τ⟩ := s
      obtain ⟨rfl, rfl, h1, h2, h3⟩ := hI
      dsimp only at h1 h2 h3
      have hd := e2 (a + t) (by omega) (by omega)
      obtain ⟨b1, b2, b3⟩ := dDg_b hd
      have hτ := dKB_6 h (by simp) h3
      have hle := (dV_r (bt := bt) (a := a) t fun x x1 x2 => (dDg_b (e2 x x1 (by omega))).2.2).1
      show dw (Re_cutNumber_n7 τ (dpy bt n (a + t)) (dn t)) _
      unfold Re_cutNumber_n7
      rw [if_neg (by rw [show (700 : Int32) = dn 700 from rfl, dn_le (by omega) (by omega)]; omega), (dpy_dg hb).1, px_b1_s, hd, if_pos rfl, if_neg (by decide), h2, dpy_n b1]
      have ev : dn (dVc bt a t) * 10 + (dn (bt (a + t)) - 48) = dn (dVc bt a t * 10 + (bt (a + t) - 48)) := by
        rw [show (10 : Int32) = dn 10 from rfl, dn_mul, show (48 : Int32) = dn 48 from rfl, dn_sub b2, dn_add]
      have em : (if dn (dVc bt a t * 10 + (bt (a + t) - 48)) < 1000000 then dn (dVc bt a t * 10 + (bt (a + t) - 48)) else 1000000) = dn (dVc bt a (t + 1)) := by
        have e1 : dVc bt a (t + 1) = min 1000000 (dVc bt a t * 10 + (bt (a + t) - 48)) := rfl
        rw [e1]
        by_cases c : dVc bt a t * 10 + (bt (a + t) - 48) < 1000000
        · rw [if_pos (by rw [show (1000000 : Int32) = dn 1000000 from rfl, dn_lt (by omega) (by omega)]; exact c)]; congr 1; omega
        · rw [if_neg (by rw [show (1000000 : Int32) = dn 1000000 from rfl, dn_lt (by omega) (by omega)]; exact c), show min 1000000 (dVc bt a t * 10 + (bt (a + t) - 48)) = 1000000 by omega]; rfl
      rw [ev, em, dw_l, dw_l, up_6, if_neg (by omega), h1, dn_suc]
      have k2 : d6 [10, 12] τ (px_up (px_up τ (6, 0, 0) 12 (dn (dVc bt a (t + 1)))) (6, 0, 0) 10 (dn (a + t + 1))) := d6_trans (d6_up (by simp)) (d6_up (by simp))
      refine dw_v (dpeek (dKB_6 hτ (by simp) k2) (by rw [up_6, if_pos rfl]) (by omega)) ?_
      simp only [dw_some, dR_l]
      exact ⟨rfl, dn_suc t, by rw [up_6, if_pos rfl]; rfl, by rw [up_6, if_neg (by omega), up_6, if_pos rfl], d6_trans h3 k2⟩
    · obtain ⟨c, w, τ⟩ := s
      obtain ⟨rfl, rfl, h1, h2, h3⟩ := hI
      dsimp only at h1 h2 h3
      rw [show a + (dE (dDg bt n) n a - a) = dE (dDg bt n) n a by omega] at h1
      show dw (Re_cutNumber_n7 τ (dpy bt n (a + (dE (dDg bt n) n a - a))) (dn (dE (dDg bt n) n a - a))) _
      rw [show a + (dE (dDg bt n) n a - a) = dE (dDg bt n) n a by omega]
      unfold Re_cutNumber_n7
      by_cases c7 : (700 : Int32) ≤ dn (dE (dDg bt n) n a - a)
      · rw [if_pos c7]; simp only [dw_some, dR_r]; exact ⟨h1, h2, h3⟩
      · rw [if_neg c7, (dpy_dg hb).1, px_b1_s, e3, if_pos (by decide)]
        simp only [dw_some, dR_r]; exact ⟨h1, h2, h3⟩
  · rw [dw_l, dw_some]
    exact ⟨by rw [up_6, if_neg (by omega)]; exact g1, by rw [up_6, if_pos rfl], by rw [up_6, if_neg (by omega)]; exact g2, d6_trans (d6_le g3 (by simp)) (d6_up (by simp))⟩
/-- the reference: a number -/
theorem dnumM (h : dKM μ bt n) (ha : μ (0, 0, 0) 18 = dn a) (hv : μ (0, 0, 0) 21 = 0) (ha2 : a < 1000000) : dw (px_it (Mo_token_L162) px_N μ) (fun μ' => μ' (0, 0, 0) 18 = dn (dE (dDg bt n) n a) ∧ μ' (0, 0, 0) 21 = dn (dVr bt a (dE (dDg bt n) n a - a)) ∧ d0 [18, 21] μ μ') := by
  have hn := h.hn
  have hb := fun t ht => (h.b t ht).1
  obtain ⟨e1, e2, e3, e4⟩ := dE_p (f := dDg bt n) (n := n) dDg_n a
  refine dw_up (dE (dDg bt n) n a - a) (by unfold px_N; omega) (fun t s => s (0, 0, 0) 18 = dn (a + t) ∧ s (0, 0, 0) 21 = dn (dVr bt a t) ∧ d0 [18, 21] μ s) (fun t τ ht hI => ?_) (fun τ hI => ?_) (Nat.zero_le _) ⟨ha, hv, d0_refl⟩
  · obtain ⟨h1, h2, h3⟩ := hI
    have hd := e2 (a + t) (by omega) (by omega)
    obtain ⟨b1, b2, b3⟩ := dDg_b hd
    have hτ := dKM_0 h (by simp) h3
    have hle := (dV_r (bt := bt) (a := a) t fun x x1 x2 => (dDg_b (e2 x x1 (by omega))).2.2).2.1
    show dw (Mo_token_n162 τ) _
    unfold Mo_token_n162
    rw [dhere hτ h1 (by omega), px_b1_s, (dpy_dg hb).2, px_b1_s, hd, if_pos rfl, if_neg (by decide), px_b1_s, h2, dpy_n b1]
    by_cases c : dVr bt a t ≤ 999999
    · rw [if_pos (by rw [show (999999 : Int32) = dn 999999 from rfl, dn_le (by omega) (by omega)]; exact c), dw_l, dw_l, up_0, if_neg (by omega), h1, dn_suc, dw_some, dR_l]
      refine ⟨by rw [up_0, if_pos rfl]; rfl, ?_, d0_trans h3 (d0_trans (d0_up (by simp)) (d0_up (by simp)))⟩
      rw [up_0, if_neg (by omega), up_0, if_pos rfl]
      have e1 : dVr bt a (t + 1) = if dVr bt a t ≤ 999999 then 10 * dVr bt a t + (bt (a + t) - 48) else dVr bt a t := rfl
      rw [e1, if_pos c, show (10 : Int32) = dn 10 from rfl, dn_mul, dn_add, show (48 : Int32) = dn 48 from rfl, dn_sub (by omega)]
      congr 1
      omega
    · rw [if_neg (by rw [show (999999 : Int32) = dn 999999 from rfl, dn_le (by omega) (by omega)]; exact c), dw_l, dw_l, up_0, if_neg (by omega), h1, dn_suc, dw_some, dR_l]
      refine ⟨by rw [up_0, if_pos rfl]; rfl, ?_, d0_trans h3 (d0_trans (d0_up (by simp)) (d0_up (by simp)))⟩
      rw [up_0, if_neg (by omega), up_0, if_pos rfl]
      have e1 : dVr bt a (t + 1) = if dVr bt a t ≤ 999999 then 10 * dVr bt a t + (bt (a + t) - 48) else dVr bt a t := rfl
      rw [e1, if_neg c]
  · obtain ⟨h1, h2, h3⟩ := hI
    rw [show a + (dE (dDg bt n) n a - a) = dE (dDg bt n) n a by omega] at h1
    have hτ := dKM_0 h (by simp) h3
    show dw (Mo_token_n162 τ) _
    unfold Mo_token_n162
    rw [dhere hτ h1 (by omega), px_b1_s, (dpy_dg hb).2, px_b1_s, e3, if_pos (by decide)]
    simp only [dw_some, dR_r]
    exact ⟨h1, h2, h3⟩
end H2
end
section
section H3
variable {σ σ' μ μ' : pxS} {bt : Nat → Nat} {n a : Nat}
theorem dX_32 {e : Nat} (hl : ∀ x, a ≤ x → x < e → 97 ≤ bt x ∧ bt x ≤ 122) (j : Nat) : dX bt a e j < 32 := by
  unfold dX
  by_cases c : a + j < e
  · have := hl (a + j) (by omega) c
    rw [if_pos c]; omega
  · rw [if_neg c]; omega
theorem d32 : 32 ^ 6 = 1073741824 := by decide
/-- letters so far, their places kept free -/
def dCode (bt : Nat → Nat) (a e t : Nat) : Nat := dNm (dX bt a e) (min t 6) * 32 ^ (6 - min t 6)
theorem dCode_0 {e : Nat} : dCode bt a e 0 = 0 := by
  unfold dCode
  rw [show min 0 6 = 0 by omega]
  show 0 * _ = 0
  rw [Nat.zero_mul]
theorem dCode_lt {e t : Nat} (hl : ∀ x, a ≤ x → x < e → 97 ≤ bt x ∧ bt x ≤ 122) : dCode bt a e t < 1073741824 := by
  have h1 := dNm_lt (dX_32 hl) (min t 6)
  unfold dCode
  rw [← d32]
  calc dNm (dX bt a e) (min t 6) * 32 ^ (6 - min t 6) < 32 ^ (min t 6) * 32 ^ (6 - min t 6) := Nat.mul_lt_mul_of_pos_right h1 (Nat.pow_pos (by omega))
    _ = 32 ^ 6 := by rw [← Nat.pow_add]; congr 1; omega
theorem dCode_s {e t : Nat} (ht : t < 6) (hte : a + t < e) (hl : ∀ x, a ≤ x → x < e → 97 ≤ bt x ∧ bt x ≤ 122) : dn (dCode bt a e t) ||| ((dn (bt (a + t)) - 97) + 1) <<< ((25 - (5 * dn t)) &&& 31) = dn (dCode bt a e (t + 1)) := by
  obtain ⟨b1, b2⟩ := hl (a + t) (by omega) hte
  have hx : dX bt a e t = bt (a + t) - 96 := by unfold dX; rw [if_pos hte]
  have h1 := dNm_lt (dX_32 hl) t
  have hc := dCode_lt (t := t) hl
  have hc1 := dCode_lt (t := t + 1) hl
  have e1 : dn (bt (a + t)) - 97 + 1 = dn (bt (a + t) - 96) := by
    rw [show (97 : Int32) = dn 97 from rfl, dn_sub b1, dn_suc]
    congr 1; omega
  have e2 : (25 : Int32) - 5 * dn t = dn (25 - 5 * t) := by
    rw [show (5 : Int32) = dn 5 from rfl, dn_mul, show (25 : Int32) = dn 25 from rfl, dn_sub (by omega)]
  have e3 : dCode bt a e (t + 1) = dCode bt a e t + (bt (a + t) - 96) * 2 ^ (25 - 5 * t) := by
    unfold dCode
    rw [show min t 6 = t by omega, show min (t + 1) 6 = t + 1 by omega]
    show (dNm (dX bt a e) t * 32 + dX bt a e t) * 32 ^ (6 - (t + 1)) = _
    rw [hx, Nat.add_mul, Nat.mul_assoc, ← Nat.pow_succ', show (6 - (t + 1)).succ = 6 - t by omega, show (32 : Nat) ^ (6 - (t + 1)) = 2 ^ (25 - 5 * t) from by
      rw [show (32 : Nat) = 2 ^ 5 from rfl, ← Nat.pow_mul]; congr 1; omega]
  have h2 : 2 ^ (25 - 5 * t) ≤ 2 ^ 25 := Nat.pow_le_pow_right (by omega) (by omega)
  have h3 : (bt (a + t) - 96) * 2 ^ (25 - 5 * t) ≤ 26 * 2 ^ 25 := Nat.mul_le_mul (by omega) h2
  apply dv_inj
  rw [e1, e2, dv_or, dv_dn (by omega), dv_shl (by omega), dv_dn (by omega), dv_dn (by omega), Nat.mod_eq_of_lt (by omega), e3]
  have h4 : dCode bt a e t = 2 ^ (30 - 5 * t) * dNm (dX bt a e) t := by
    unfold dCode
    rw [show min t 6 = t by omega, Nat.mul_comm, show (32 : Nat) ^ (6 - t) = 2 ^ (30 - 5 * t) from by
      rw [show (32 : Nat) = 2 ^ 5 from rfl, ← Nat.pow_mul]; congr 1; omega]
  have h5 : (bt (a + t) - 96) * 2 ^ (25 - 5 * t) < 2 ^ (30 - 5 * t) := by
    calc (bt (a + t) - 96) * 2 ^ (25 - 5 * t) < 2 ^ 5 * 2 ^ (25 - 5 * t) := Nat.mul_lt_mul_of_pos_right (by show _ < 32; omega) (Nat.pow_pos (by omega))
      _ = 2 ^ (30 - 5 * t) := by rw [← Nat.pow_add]; congr 1; omega
  rw [h4, Nat.two_pow_add_eq_or_of_lt h5]
/-- the code behind all its letters -/
theorem dCode_e {e : Nat} (h : e ≤ a + 6) (hae : a ≤ e) : dCode bt a e (e - a) = dNm (dX bt a e) 6 := by
  unfold dCode
  rw [show min (e - a) 6 = e - a by omega]
  have := dNm_0 (x := dX bt a e) (m := e - a) (fun j hj => by unfold dX; rw [if_neg (by omega)]) (6 - (e - a))
  rw [show e - a + (6 - (e - a)) = 6 by omega] at this
  exact this.symm
/-- the token's words, its name -/
def dWrd (bt : Nat → Nat) (a e : Nat) : Int32 := dWx (dMt bt a e)
theorem dwordC {e : Nat} (wl : ∀ k, k < 14 → σ (12, 0, 0) k = dn (dNm (wX k) 6)) (hae : a ≤ e) (he : e ≤ a + 6) (hl : ∀ x, a ≤ x → x < e → 97 ≤ bt x ∧ bt x ≤ 122) : F_Re_wordOfLanguage σ (dn (dNm (dX bt a e) 6)) = some (dWrd bt a e) := by
  have hb : ∀ k, k < 14 → (σ (12, 0, 0) k = dn (dNm (dX bt a e) 6) ↔ dMt bt a e k = true) := fun k hk => by
    have h1 := dNm_lt (dX_32 hl) 6
    have h2 := dNm_lt (x := wX k) (fun j => wX_32 hk) 6
    rw [d32] at h1 h2
    rw [wl k hk, dn_inj (by omega) (by omega), dMt_c hk hae he hl]
  suffices hh : dw (F_Re_wordOfLanguage σ (dn (dNm (dX bt a e) 6))) (fun r => r = dWrd bt a e) by
    obtain ⟨a, e, rfl⟩ := hh; exact e
  unfold F_Re_wordOfLanguage
  rw [dw_b1]
  refine dw_mono (P := fun x : Nat × Int32 => (x.1 = 0 ∧ ∃ i, i < 14 ∧ x.2 = dn i ∧ dMt bt a e i = true ∧ ∀ j, j < i → dMt bt a e j = false) ∨ (x.1 = 1 ∧ ∀ j, j < 14 → dMt bt a e j = false)) ?_ fun x hx => ?_
  · refine dw_up 14 (by unfold px_N; omega) (fun t s => s = dn t ∧ ∀ j, j < t → dMt bt a e j = false) (fun t s ht hI => ?_) (fun s hI => ?_) (Nat.zero_le _) ⟨rfl, fun j hj => absurd hj (by omega)⟩
    · obtain ⟨rfl, h1⟩ := hI
      show dw (Re_wordOfLanguage_n2 σ _ (dn t)) _
      unfold Re_wordOfLanguage_n2
      rw [if_neg (by rw [show (14 : Int32) = dn 14 from rfl, dn_le (by omega) (by omega)]; omega)]
      refine dw_gi (by omega) (by omega) ?_
      rw [dn_nat (by omega)]
      by_cases c : dMt bt a e t = true
      · rw [if_pos ((hb t ht).mpr c)]
        simp only [dw_some, dR_r]
        exact Or.inl ⟨trivial, t, ht, rfl, c, h1⟩
      · rw [if_neg (fun z => c ((hb t ht).mp z))]
        simp only [dw_some, dR_l]
        refine ⟨dn_suc t, fun j hj => ?_⟩
        by_cases e : j = t
        · rw [e]; simpa using c
        · exact h1 j (by omega)
    · obtain ⟨rfl, h1⟩ := hI
      show dw (Re_wordOfLanguage_n2 σ _ (dn 14)) _
      unfold Re_wordOfLanguage_n2
      rw [if_pos (by decide)]
      simp only [dw_some, dR_r]
      exact Or.inr ⟨trivial, h1⟩
  · rcases hx with ⟨h1, h2⟩ | ⟨h1, h2⟩
    · rw [if_pos h1]; exact dw_some.mpr (dWx_p (Or.inl h2))
    · rw [if_neg (by rw [h1]; decide)]; exact dw_some.mpr (dWx_p (Or.inr ⟨rfl, h2⟩))
/-- the class: a word or a name -/
theorem dcutW (h : dKB σ bt n) (wl : ∀ k, k < 14 → σ (12, 0, 0) k = dn (dNm (wX k) 6)) (ha : σ (6, 0, 0) 10 = dn a) (ha2 : a < 1000000) : dw (F_Re_cutWord σ) (fun σ' => σ' (6, 0, 0) 10 = dn (dE (dLt bt n) n a) ∧ (if dE (dLt bt n) n a - a ≤ 6 then (if dWrd bt a (dE (dLt bt n) n a) = -1 then σ' (6, 0, 0) 11 = 1 ∧ σ' (6, 0, 0) 12 = dn (dNm (dX bt a (dE (dLt bt n) n a)) 6) else σ' (6, 0, 0) 11 = 2 ∧ σ' (6, 0, 0) 12 = dWrd bt a (dE (dLt bt n) n a)) else σ' (6, 0, 0) 11 = 5 ∧ σ' (6, 0, 0) 12 = σ (6, 0, 0) 12) ∧ d6 [10, 11, 12] σ σ') := by
  have hn := h.hn
  have hb := fun t ht => (h.b t ht).1
  obtain ⟨e1, e2, e3, e4⟩ := dE_p (f := dLt bt n) (n := n) dLt_n a
  have hl : ∀ x, a ≤ x → x < dE (dLt bt n) n a → 97 ≤ bt x ∧ bt x ≤ 122 := fun x x1 x2 => (dLt_b (e2 x x1 x2)).2
  unfold F_Re_cutWord
  refine dw_v (dpeek h ha (by omega)) ?_
  rw [dw_b1]
  refine dw_mono (P := fun x : Int32 × Int32 × pxS => x.1 = dn (dCode bt a (dE (dLt bt n) n a) (dE (dLt bt n) n a - a)) ∧ x.2.1 = dn (dE (dLt bt n) n a - a) ∧ x.2.2 (6, 0, 0) 10 = dn (dE (dLt bt n) n a) ∧ d6 [10] σ x.2.2) ?_ fun x ⟨g1, g2, g3, g4⟩ => ?_
  · refine dw_up (dE (dLt bt n) n a - a) (by unfold px_N; omega) (fun t s => s.1 = dn (dCode bt a (dE (dLt bt n) n a) t) ∧ s.2.1 = dn t ∧ s.2.2.1 = dpy bt n (a + t) ∧ s.2.2.2.1 = dn t ∧ s.2.2.2.2 (6, 0, 0) 10 = dn (a + t) ∧ d6 [10] σ s.2.2.2.2) (fun t s ht hI => ?_) (fun s hI => ?_) (Nat.zero_le _) ⟨by rw [dCode_0]; rfl, rfl, rfl, rfl, ha, d6_refl⟩
    · obtain ⟨l, z, c, w, τ⟩ := s
      obtain ⟨rfl, rfl, rfl, rfl, h1, h2⟩ := hI
      dsimp only at h1 h2
      have hd := e2 (a + t) (by omega) (by omega)
      obtain ⟨b1, b2, b3⟩ := dLt_b hd
      have hτ := dKB_6 h (by simp) h2
      show dw (Re_cutWord_n12 τ _ (dn t) (dpy bt n (a + t)) (dn t)) _
      unfold Re_cutWord_n12
      rw [if_neg (by rw [show (700 : Int32) = dn 700 from rfl, dn_le (by omega) (by omega)]; omega), (dpy_lt hb).1, px_b1_s, hd, if_pos rfl, if_neg (by decide), dpy_n b1]
      have go : ∀ {QQ : Int32 × Int32 × pxS → Prop} (l : Int32), l = dn (dCode bt a (dE (dLt bt n) n a) (t + 1)) → dw (Re_cutWord_n41 τ l (dn t) (dn t)) (dR (fun s => s.1 = dn (dCode bt a (dE (dLt bt n) n a) (t + 1)) ∧ s.2.1 = dn (t + 1) ∧ s.2.2.1 = dpy bt n (a + (t + 1)) ∧ s.2.2.2.1 = dn (t + 1) ∧ s.2.2.2.2 (6, 0, 0) 10 = dn (a + (t + 1)) ∧ d6 [10] σ s.2.2.2.2) QQ) := by
        intro QQ l hl
        unfold Re_cutWord_n41
        rw [dw_l, h1, dn_suc]
        refine dw_v (dpeek (dKB_6 hτ (qs := [10]) (by simp) (d6_up (by simp))) (by rw [up_6, if_pos rfl]) (by omega)) ?_
        simp only [dw_some, dR_l]
        exact ⟨hl, dn_suc t, rfl, dn_suc t, by rw [up_6, if_pos rfl]; rfl, d6_trans h2 (d6_up (by simp))⟩
      by_cases c6 : 6 ≤ t
      · rw [if_pos (by rw [show (6 : Int32) = dn 6 from rfl, dn_le (by omega) (by omega)]; exact c6)]
        refine go _ ?_
        unfold dCode
        rw [show min t 6 = 6 by omega, show min (t + 1) 6 = 6 by omega]
      · rw [if_neg (by rw [show (6 : Int32) = dn 6 from rfl, dn_le (by omega) (by omega)]; exact c6)]
        unfold F_Re_letterBits
        rw [px_b1_s]
        exact go _ (dCode_s (by omega) (by omega) hl)
    · obtain ⟨l, z, c, w, τ⟩ := s
      obtain ⟨rfl, rfl, rfl, rfl, h1, h2⟩ := hI
      dsimp only at h1 h2
      rw [show a + (dE (dLt bt n) n a - a) = dE (dLt bt n) n a by omega] at h1
      show dw (Re_cutWord_n12 τ _ _ (dpy bt n (a + (dE (dLt bt n) n a - a))) (dn (dE (dLt bt n) n a - a))) _
      rw [show a + (dE (dLt bt n) n a - a) = dE (dLt bt n) n a by omega]
      unfold Re_cutWord_n12
      by_cases c7 : (700 : Int32) ≤ dn (dE (dLt bt n) n a - a)
      · rw [if_pos c7]; simp only [dw_some, dR_r]; exact ⟨trivial, trivial, h1, h2⟩
      · rw [if_neg c7, (dpy_lt hb).1, px_b1_s, e3, if_pos (by decide)]
        simp only [dw_some, dR_r]; exact ⟨trivial, trivial, h1, h2⟩
  · obtain ⟨l, z, τ⟩ := x
    dsimp only at g1 g2 g3 g4
    subst g1 g2
    dsimp only
    by_cases c6 : dE (dLt bt n) n a - a ≤ 6
    · rw [if_pos (by rw [show (6 : Int32) = dn 6 from rfl, dn_le (by omega) (by omega)]; exact c6), dCode_e (by omega) e1]
      rw [dwordC (σ := τ) (fun k hk => by rw [g4.2 _ (by simp)]; exact wl k hk) e1 (by omega) hl, px_b1_s]
      have hneg : dWrd bt a (dE (dLt bt n) n a) < 0 ↔ dWrd bt a (dE (dLt bt n) n a) = -1 := by
        rcases dWx_c (M := dMt bt a (dE (dLt bt n) n a)) with ⟨i, i1, i2⟩ | z
        · unfold dWrd
          rw [i2]
          exact ⟨fun z => absurd z (dn_nn (by omega)), fun z => absurd z (dn_m1 (by omega))⟩
        · unfold dWrd
          rw [z]
          exact ⟨fun _ => rfl, fun _ => by decide⟩
      by_cases cw : dWrd bt a (dE (dLt bt n) n a) = -1
      · rw [if_pos (hneg.mpr cw), dw_l, if_pos (hneg.mpr cw), dw_l, dw_some, if_pos c6, if_pos cw]
        exact ⟨by rw [up_6, if_neg (by omega), up_6, if_neg (by omega)]; exact g3, ⟨by rw [up_6, if_neg (by omega), up_6, if_pos rfl], by rw [up_6, if_pos rfl]⟩, d6_trans (d6_le g4 (by simp)) (d6_trans (d6_up (by simp)) (d6_up (by simp)))⟩
      · rw [if_neg (fun z => cw (hneg.mp z)), dw_l, if_neg (fun z => cw (hneg.mp z)), dw_l, dw_some, if_pos c6, if_neg cw]
        exact ⟨by rw [up_6, if_neg (by omega), up_6, if_neg (by omega)]; exact g3, ⟨by rw [up_6, if_neg (by omega), up_6, if_pos rfl], by rw [up_6, if_pos rfl]⟩, d6_trans (d6_le g4 (by simp)) (d6_trans (d6_up (by simp)) (d6_up (by simp)))⟩
    · rw [if_neg (by rw [show (6 : Int32) = dn 6 from rfl, dn_le (by omega) (by omega)]; exact c6), dw_l, dw_some, if_neg c6]
      exact ⟨by rw [up_6, if_neg (by omega)]; exact g3, ⟨by rw [up_6, if_pos rfl], by rw [up_6, if_neg (by omega)]; exact g4.1 _ (by simp)⟩, d6_trans (d6_le g4 (by simp)) (d6_up (by simp))⟩
/-- the reference: which word it is -/
theorem dwordM {e : Nat} (h : dKM μ bt n) (hp : μ (0, 0, 0) 19 = dn a) (hat : μ (0, 0, 0) 18 = dn e) (hae : a ≤ e) (hen : e ≤ n) : F_Mo_wordHere μ = some (dWrd bt a e) := by
  have hn := h.hn
  suffices hh : dw (F_Mo_wordHere μ) (fun r => r = dWrd bt a e) by
    obtain ⟨a, e, rfl⟩ := hh; exact e
  unfold F_Mo_wordHere
  rw [dw_b1]
  refine dw_mono (P := fun x : Nat × Int32 => (x.1 = 0 ∧ ∃ i, i < 14 ∧ x.2 = dn i ∧ dMt bt a e i = true ∧ ∀ j, j < i → dMt bt a e j = false) ∨ (x.1 = 1 ∧ ∀ j, j < 14 → dMt bt a e j = false)) ?_ fun x hx => ?_
  · refine dw_up 14 (by unfold px_N; omega) (fun t s => s.1 = dn t ∧ s.2 = dn (wP t) ∧ ∀ j, j < t → dMt bt a e j = false) (fun t s ht hI => ?_) (fun s hI => ?_) (Nat.zero_le _) ⟨rfl, rfl, fun j hj => absurd hj (by omega)⟩
    · obtain ⟨w, v⟩ := s
      obtain ⟨rfl, rfl, h1⟩ := hI
      obtain ⟨l1, l2⟩ := wL_6 t ht
      obtain ⟨p1, p2⟩ := wP_n t ht
      show dw (Mo_wordHere_n4 μ (dn t) (dn (wP t))) _
      unfold Mo_wordHere_n4
      rw [if_neg (by rw [show (76 : Int32) = dn 76 from rfl, dn_le (by omega) (by omega)]; omega), dw_b1]
      -- the common beginning
      obtain ⟨q, q1, q2, q3⟩ := dleast (fun j => ¬ (a + j < e ∧ bt (a + j) = wX t j + 96)) (wL t)
      have q2' : ∀ j, j < q → a + j < e ∧ bt (a + j) = wX t j + 96 := fun j hj => Decidable.not_not.mp (q2 j hj)
      refine dw_mono (P := fun x => x = dn q) ?_ fun x hx => ?_
      · refine dw_up q (by unfold px_N; omega) (fun u s => s = dn u) (fun u s hu hI => ?_) (fun s hI => ?_) (Nat.zero_le _) rfl
        · subst hI
          obtain ⟨y1, y2⟩ := q2' u hu
          obtain ⟨x1, x2, x3⟩ := wX_b t u ht (by omega)
          show dw (Mo_wordHere_n15 μ _ _ (dn u)) _
          unfold Mo_wordHere_n15
          rw [dn_add]
          refine dw_gi (by omega) (by omega) ?_
          rw [dn_nat (by omega), x3, if_neg (by rw [show (32 : Int32) = dn 32 from rfl, dn_inj (by omega) (by omega)]; omega), hat, hp, dn_add, if_neg (by rw [dn_le (by omega) (by omega)]; omega)]
          refine dw_gi (by omega) (by omega) (dw_gi (by omega) (by omega) ?_)
          rw [dn_nat (by omega), (h.b (a + u) (by omega)).2, y2, if_pos rfl]
          simp only [dw_some, dR_l]
          exact dn_suc u
        · subst hI
          show dw (Mo_wordHere_n15 μ _ _ (dn q)) _
          unfold Mo_wordHere_n15
          rw [dn_add]
          refine dw_gi (by omega) (by omega) ?_
          rw [dn_nat (by omega)]
          rcases q3 with rfl | q3
          · rw [wX_e t ht, if_pos rfl]
            simp only [dw_some, dR_r]
          · by_cases cq : q = wL t
            · rw [cq, wX_e t ht, if_pos rfl]
              simp only [dw_some, dR_r]
            · obtain ⟨x1, x2, x3⟩ := wX_b t q ht (by omega)
              rw [x3, if_neg (by rw [show (32 : Int32) = dn 32 from rfl, dn_inj (by omega) (by omega)]; omega), hat, hp, dn_add]
              by_cases c1 : a + q < e
              · rw [if_neg (by rw [dn_le (by omega) (by omega)]; omega)]
                refine dw_gi (by omega) (by omega) (dw_gi (by omega) (by omega) ?_)
                have hbb := (h.b (a + q) (by omega)).1
                rw [dn_nat (by omega), (h.b (a + q) (by omega)).2, if_neg (fun z => q3 ⟨c1, by rw [dn_inj (by omega) (by omega)] at z; exact z⟩)]
                simp only [dw_some, dR_r]
              · rw [if_pos (by rw [dn_le (by omega) (by omega)]; omega)]
                simp only [dw_some, dR_r]
      · subst hx
        rw [dn_add]
        refine dw_gi (by omega) (by omega) ?_
        rw [dn_nat (by omega), hp, hat, dn_add]
        have hM : dMt bt a e t = true ↔ q = wL t ∧ a + q = e := by
          rw [dMt_i]
          constructor
          · intro ⟨z1, z2⟩
            have : q = wL t := by
              rcases q3 with z | z
              · exact z
              · by_cases c : q = wL t
                · exact c
                · exact absurd ⟨by omega, z2 q (by omega)⟩ z
            exact ⟨this, by omega⟩
          · intro ⟨z1, z2⟩
            exact ⟨by omega, fun j hj => (q2' j (by omega)).2⟩
        -- to the next word
        have nxt : ∀ {QQ : Nat × Int32 → Prop}, dMt bt a e t = false → dw (px_b1 (px_it (Mo_wordHere_L97 μ (dn t)) px_N (dn (wP t))) fun e12 => (some (.inl (dn t + 1, e12 + 1)) : Option ((Int32 × Int32) ⊕ (Nat × Int32)))) (dR (fun s => s.1 = dn (t + 1) ∧ s.2 = dn (wP (t + 1)) ∧ ∀ j, j < t + 1 → dMt bt a e j = false) QQ) := fun hno => by
          rw [dw_b1]
          refine dw_mono (P := fun x => x = dn (wP t + wL t)) ?_ fun x hx => ?_
          · refine dw_up (wL t) (by unfold px_N; omega) (fun u s => s = dn (wP t + u)) (fun u s hu hI => ?_) (fun s hI => ?_) (Nat.zero_le _) rfl
            · subst hI
              obtain ⟨x1, x2, x3⟩ := wX_b t u ht hu
              show dw (Mo_wordHere_n97 μ _ (dn (wP t + u))) _
              unfold Mo_wordHere_n97
              refine dw_gi (by omega) (by omega) ?_
              rw [dn_nat (by omega), x3, if_neg (by rw [show (32 : Int32) = dn 32 from rfl, dn_inj (by omega) (by omega)]; omega)]
              simp only [dw_some, dR_l]
              exact dn_suc _
            · subst hI
              show dw (Mo_wordHere_n97 μ _ (dn (wP t + wL t))) _
              unfold Mo_wordHere_n97
              refine dw_gi (by omega) (by omega) ?_
              rw [dn_nat (by omega), wX_e t ht, if_pos rfl]
              simp only [dw_some, dR_r]
          · subst hx
            simp only [dw_some, dR_l]
            refine ⟨dn_suc t, by rw [p1]; exact dn_suc _, fun j hj => ?_⟩
            by_cases e : j = t
            · rw [e]; exact hno
            · exact h1 j (by omega)
        by_cases cq : q = wL t
        · rw [cq, wX_e t ht, if_pos rfl]
          by_cases ce : a + wL t = e
          · rw [if_pos (by rw [ce])]
            simp only [dw_some, dR_r]
            exact Or.inl ⟨trivial, t, ht, rfl, hM.mpr ⟨cq, by omega⟩, h1⟩
          · rw [if_neg (by rw [dn_inj (by omega) (by omega)]; exact ce)]
            refine nxt ?_
            cases z : dMt bt a e t with
            | false => rfl
            | true => exact absurd (by have := (hM.mp z).2; omega) ce
        · obtain ⟨x1, x2, x3⟩ := wX_b t q ht (by omega)
          rw [x3, if_neg (by rw [show (32 : Int32) = dn 32 from rfl, dn_inj (by omega) (by omega)]; omega)]
          refine nxt ?_
          cases z : dMt bt a e t with
          | false => rfl
          | true => exact absurd (hM.mp z).1 cq
    · obtain ⟨w, v⟩ := s
      obtain ⟨rfl, rfl, h1⟩ := hI
      show dw (Mo_wordHere_n4 μ (dn 14) (dn (wP 14))) _
      unfold Mo_wordHere_n4
      rw [if_pos (by decide)]
      simp only [dw_some, dR_r]
      exact Or.inr ⟨trivial, h1⟩
  · rcases hx with ⟨h1, h2⟩ | ⟨h1, h2⟩
    · rw [if_pos h1]; exact dw_some.mpr (dWx_p (Or.inl h2))
    · rw [if_neg (by rw [h1]; decide)]; exact dw_some.mpr (dWx_p (Or.inr ⟨rfl, h2⟩))
/-- the reference: a name -/
theorem dnameM {e : Nat} (h : dKM μ bt n) (hp : μ (0, 0, 0) 19 = dn a) (hat : μ (0, 0, 0) 18 = dn e) (hae : a ≤ e) (hen : e ≤ n) (hl : ∀ x, a ≤ x → x < e → 97 ≤ bt x ∧ bt x ≤ 122) : dw (F_Mo_nameHere μ) (fun μ' => μ' (0, 0, 0) 21 = dn (dNm (dX bt a e) 6) ∧ d0 [21] μ μ') := by
  have hn := h.hn
  unfold F_Mo_nameHere
  rw [dw_l, dw_b1]
  refine dw_mono (P := fun μ' => μ' (0, 0, 0) 21 = dn (dNm (dX bt a e) 6) ∧ d0 [21] μ μ') ?_ fun x hx => dw_some.mpr hx
  refine dw_up 6 (by unfold px_N; omega) (fun t s => s.1 = dn t ∧ s.2 (0, 0, 0) 21 = dn (dNm (dX bt a e) t) ∧ d0 [21] μ s.2) (fun t s ht hI => ?_) (fun s hI => ?_) (Nat.zero_le _) ⟨rfl, by show px_up μ (0, 0, 0) 21 0 (0, 0, 0) 21 = _; rw [up_0, if_pos rfl]; rfl, d0_up (by simp)⟩
  · obtain ⟨v, τ⟩ := s
    obtain ⟨rfl, h1, h2⟩ := hI
    dsimp only at h1 h2
    have hlt := dNm_lt (dX_32 hl) t
    have h32 := dX_32 hl t
    have hpow : 32 ^ t ≤ 32 ^ 5 := Nat.pow_le_pow_right (by omega) (by omega)
    have h335 : (32 : Nat) ^ 5 = 33554432 := by decide
    show dw (Mo_nameHere_n7 τ (dn t)) _
    unfold Mo_nameHere_n7
    have e18 : τ (0, 0, 0) 18 = dn e := by rw [h2.1 _ (by simp)]; exact hat
    have e19 : τ (0, 0, 0) 19 = dn a := by rw [h2.1 _ (by simp)]; exact hp
    have eor : ∀ x, x < 32 → x = dX bt a e t → (dn (dNm (dX bt a e) t) <<< (5 &&& 31)) ||| dn x = dn (dNm (dX bt a e) (t + 1)) := fun x hx ex => by
      apply dv_inj
      have e1 : dNm (dX bt a e) (t + 1) = 2 ^ 5 * dNm (dX bt a e) t + x := by
        show dNm (dX bt a e) t * 32 + dX bt a e t = _
        rw [ex]; omega
      rw [show (5 : Int32) = dn 5 from rfl, dv_or, dv_shl (by omega), dv_dn (by omega), dv_dn (by omega), e1, dv_dn (by omega), Nat.two_pow_add_eq_or_of_lt (i := 5) (by omega), Nat.mod_eq_of_lt (by omega), Nat.mul_comm]
    rw [if_neg (by rw [show (6 : Int32) = dn 6 from rfl, dn_le (by omega) (by omega)]; omega), e18, e19, dn_add, h1]
    by_cases c : a + t < e
    · have hb := hl (a + t) (by omega) c
      rw [if_neg (by rw [dn_le (by omega) (by omega)]; omega)]
      refine dw_gi (by omega) (by omega) ?_
      rw [dn_nat (by omega), h2.2 _ (by simp), (h.b (a + t) (by omega)).2, show dn (bt (a + t)) - 97 + 1 = dn (bt (a + t) - 96) from by
        rw [show (97 : Int32) = dn 97 from rfl, dn_sub hb.1, dn_suc]; congr 1; omega]
      have ex : bt (a + t) - 96 = dX bt a e t := by unfold dX; rw [if_pos c]
      rw [eor _ (by omega) ex]
      simp only [dw_l, dw_some, dR_l]
      exact ⟨dn_suc t, by rw [up_0, if_pos rfl], d0_trans h2 (d0_up (by simp))⟩
    · rw [if_pos (by rw [dn_le (by omega) (by omega)]; omega)]
      have ex : 0 = dX bt a e t := by unfold dX; rw [if_neg c]
      rw [show (0 : Int32) = dn 0 from rfl, eor 0 (by omega) ex]
      simp only [dw_l, dw_some, dR_l]
      exact ⟨dn_suc t, up_0.trans (if_pos rfl), d0_trans h2 (d0_up (by simp))⟩
  · obtain ⟨v, τ⟩ := s
    obtain ⟨rfl, h1, h2⟩ := hI
    show dw (Mo_nameHere_n7 τ (dn 6)) _
    unfold Mo_nameHere_n7
    rw [if_pos (by decide)]
    simp only [dw_some, dR_r]
    exact ⟨h1, h2⟩
end H3
end
section
/-! tokens -/
abbrev dTok : Type := Nat × Int32 × Nat × Nat × Nat
def dTa (bt : Nat → Nat) (n a : Nat) : dTok :=
  if a < n then
    (if dLt bt n a = true then (if dE (dLt bt n) n a - a ≤ 6 then (if dWrd bt a (dE (dLt bt n) n a) = -1 then ⟨1, dn (dNm (dX bt a (dE (dLt bt n) n a)) 6), 0, a, dE (dLt bt n) n a⟩ else ⟨2, dWrd bt a (dE (dLt bt n) n a), 0, a, dE (dLt bt n) n a⟩) else ⟨5, 0, 0, a, dE (dLt bt n) n a⟩)
    else if dDg bt n a = true then ⟨3, dn (dVc bt a (dE (dDg bt n) n a - a)), dVr bt a (dE (dDg bt n) n a - a), a, dE (dDg bt n) n a⟩
    else if bt a = 59 then ⟨4, 0, 0, a, a + 1⟩ else ⟨5, 0, 0, a, a + 1⟩)
  else ⟨0, 0, 0, a, a⟩
def dTk (bt : Nat → Nat) (n a0 : Nat) : dTok := dTa bt n (dE (dBl bt n) n a0)
def dTs' (bt : Nat → Nat) (n : Nat) : Nat → dTok
  | 0 => dTk bt n 0
  | k + 1 => dTk bt n (dTs' bt n k).2.2.2.2
def dPs (bt : Nat → Nat) (n : Nat) : Nat → Nat
  | 0 => 0
  | k + 1 => (dTs' bt n k).2.2.2.2
/-- the reference's kinds -/
def dRk (k : Nat) : Nat := if k = 0 then 4 else if k = 1 then 1 else if k = 2 then 0 else if k = 3 then 2 else if k = 4 then 3 else 5
section H4
variable {σ σ' μ μ' : pxS} {bt : Nat → Nat} {n a : Nat}
theorem dTs_k (k : Nat) : dTs' bt n k = dTk bt n (dPs bt n k) := by cases k <;> rfl
abbrev dTf (bt : Nat → Nat) (n a : Nat) (T : dTok) : Prop := (T.2.2.2.1 = a) ∧ (a ≤ T.2.2.2.2 ∧ T.2.2.2.2 ≤ max (a + 1) n) ∧ (T.1 ≤ 5) ∧ (T.1 = 0 ↔ n ≤ a) ∧ (a < n → a < T.2.2.2.2) ∧ (T.1 = 3 → ∃ x, x ≤ 1000000 ∧ T.2.1 = dn x ∧ T.2.2.1 < 20000000 ∧ (x < 1000000 → T.2.2.1 = x) ∧ (x = 1000000 → 1000000 ≤ T.2.2.1)) ∧ (T.1 = 2 → ∃ i, i < 14 ∧ T.2.1 = dn i)
theorem dTf.pl {bt : Nat → Nat} {n a : Nat} {T : dTok} (h0 : dTf bt n a T) : T.2.2.2.1 = a := h0.1
theorem dTf.nx {bt : Nat → Nat} {n a : Nat} {T : dTok} (h0 : dTf bt n a T) : a ≤ T.2.2.2.2 ∧ T.2.2.2.2 ≤ max (a + 1) n := h0.2.1
theorem dTf.k5 {bt : Nat → Nat} {n a : Nat} {T : dTok} (h0 : dTf bt n a T) : T.1 ≤ 5 := h0.2.2.1
theorem dTf.k0 {bt : Nat → Nat} {n a : Nat} {T : dTok} (h0 : dTf bt n a T) : T.1 = 0 ↔ n ≤ a := h0.2.2.2.1
theorem dTf.gt {bt : Nat → Nat} {n a : Nat} {T : dTok} (h0 : dTf bt n a T) : a < n → a < T.2.2.2.2 := h0.2.2.2.2.1
theorem dTf.v3 {bt : Nat → Nat} {n a : Nat} {T : dTok} (h0 : dTf bt n a T) : T.1 = 3 → ∃ x, x ≤ 1000000 ∧ T.2.1 = dn x ∧ T.2.2.1 < 20000000 ∧ (x < 1000000 → T.2.2.1 = x) ∧ (x = 1000000 → 1000000 ≤ T.2.2.1) := h0.2.2.2.2.2.1
theorem dTf.v2 {bt : Nat → Nat} {n a : Nat} {T : dTok} (h0 : dTf bt n a T) : T.1 = 2 → ∃ i, i < 14 ∧ T.2.1 = dn i := h0.2.2.2.2.2.2
theorem dTa_f : dTf bt n a (dTa bt n a) := by
  have hl := dE_p (f := dLt bt n) (n := n) dLt_n a
  have hd := dE_p (f := dDg bt n) (n := n) dDg_n a
  unfold dTa
  by_cases c : a < n
  · rw [if_pos c]
    by_cases c1 : dLt bt n a = true
    · rw [if_pos c1]
      have hgt : a < dE (dLt bt n) n a := by
        refine Classical.byContradiction fun z => ?_
        have e : dE (dLt bt n) n a = a := by omega
        have := hl.2.2.1
        rw [e, c1] at this; exact absurd this (by decide)
      by_cases c2 : dE (dLt bt n) n a - a ≤ 6
      · rw [if_pos c2]
        by_cases c3 : dWrd bt a (dE (dLt bt n) n a) = -1
        · rw [if_pos c3]
          exact ⟨rfl, ⟨hl.1, by have := hl.2.2.2; show dE (dLt bt n) n a ≤ _; omega⟩, by show 1 ≤ 5; omega, ⟨fun z => absurd z (by show ¬ 1 = 0; omega), fun z => absurd z (by omega)⟩, fun _ => hgt, fun z => absurd z (by show ¬ 1 = 3; omega), fun z => absurd z (by show ¬ 1 = 2; omega)⟩
        · rw [if_neg c3]
          exact ⟨rfl, ⟨hl.1, by have := hl.2.2.2; show dE (dLt bt n) n a ≤ _; omega⟩, by show 2 ≤ 5; omega, ⟨fun z => absurd z (by show ¬ 2 = 0; omega), fun z => absurd z (by omega)⟩, fun _ => hgt, fun z => absurd z (by show ¬ 2 = 3; omega), fun _ => (dWx_c (M := dMt bt a (dE (dLt bt n) n a))).resolve_right c3⟩
      · rw [if_neg c2]
        exact ⟨rfl, ⟨hl.1, by have := hl.2.2.2; show dE (dLt bt n) n a ≤ _; omega⟩, by show 5 ≤ 5; omega, ⟨fun z => absurd z (by show ¬ 5 = 0; omega), fun z => absurd z (by omega)⟩, fun _ => hgt, fun z => absurd z (by show ¬ 5 = 3; omega), fun z => absurd z (by show ¬ 5 = 2; omega)⟩
    · rw [if_neg c1]
      by_cases c2 : dDg bt n a = true
      · rw [if_pos c2]
        have hgt : a < dE (dDg bt n) n a := by
          refine Classical.byContradiction fun z => ?_
          have e : dE (dDg bt n) n a = a := by omega
          have := hd.2.2.1
          rw [e, c2] at this; exact absurd this (by decide)
        obtain ⟨h1, h2, h3, h4⟩ := dV_r (bt := bt) (a := a) (dE (dDg bt n) n a - a) fun x x1 x2 => (dDg_b (hd.2.1 x x1 (by omega))).2.2
        exact ⟨rfl, ⟨hd.1, by have := hd.2.2.2; show dE (dDg bt n) n a ≤ _; omega⟩, by show 3 ≤ 5; omega, ⟨fun z => absurd z (by show ¬ 3 = 0; omega), fun z => absurd z (by omega)⟩, fun _ => hgt, fun _ => ⟨_, h1, rfl, h2, h3, h4⟩, fun z => absurd z (by show ¬ 3 = 2; omega)⟩
      · rw [if_neg c2]
        by_cases c3 : bt a = 59
        · rw [if_pos c3]
          exact ⟨rfl, ⟨by show a ≤ a + 1; omega, by show a + 1 ≤ _; omega⟩, by show 4 ≤ 5; omega, ⟨fun z => absurd z (by show ¬ 4 = 0; omega), fun z => absurd z (by omega)⟩, fun _ => by show a < a + 1; omega, fun z => absurd z (by show ¬ 4 = 3; omega), fun z => absurd z (by show ¬ 4 = 2; omega)⟩
        · rw [if_neg c3]
          exact ⟨rfl, ⟨by show a ≤ a + 1; omega, by show a + 1 ≤ _; omega⟩, by show 5 ≤ 5; omega, ⟨fun z => absurd z (by show ¬ 5 = 0; omega), fun z => absurd z (by omega)⟩, fun _ => by show a < a + 1; omega, fun z => absurd z (by show ¬ 5 = 3; omega), fun z => absurd z (by show ¬ 5 = 2; omega)⟩
  · rw [if_neg c]
    exact ⟨rfl, ⟨Nat.le_refl _, by show a ≤ _; omega⟩, by show 0 ≤ 5; omega, ⟨fun _ => by omega, fun _ => rfl⟩, fun z => absurd z c, fun z => absurd z (by show ¬ 0 = 3; omega), fun z => absurd z (by show ¬ 0 = 2; omega)⟩
/-- the class: a token -/
theorem dtokC (h : dKB σ bt n) (wl : ∀ k, k < 14 → σ (12, 0, 0) k = dn (dNm (wX k) 6)) (ha : σ (6, 0, 0) 10 = dn a) (hv : σ (6, 0, 0) 12 = 0) (ha2 : a < 1000000) : dw (F_Re_cutToken σ (dpy bt n a)) (fun σ' => σ' (6, 0, 0) 10 = dn (dTa bt n a).2.2.2.2 ∧ σ' (6, 0, 0) 11 = dn (dTa bt n a).1 ∧ σ' (6, 0, 0) 12 = (dTa bt n a).2.1 ∧ d6 [10, 11, 12] σ σ') := by
  have hn := h.hn
  have hb := fun t ht => (h.b t ht).1
  unfold F_Re_cutToken dTa
  by_cases c : a < n
  · rw [if_pos c, if_pos (by rw [dpy_n c]; exact Int32.not_lt.mp (dn_nn (by have := hb a c; omega))), (dpy_lt hb).1, px_b1_s]
    by_cases c1 : dLt bt n a = true
    · rw [if_pos c1, if_pos c1, if_neg (by decide), dw_b1]
      refine dw_mono (dcutW h wl ha ha2) fun σ' ⟨g1, g2, g3⟩ => dw_some.mpr ?_
      by_cases c2 : dE (dLt bt n) n a - a ≤ 6
      · rw [if_pos c2] at g2 ⊢
        by_cases c3 : dWrd bt a (dE (dLt bt n) n a) = -1
        · rw [if_pos c3] at g2 ⊢; exact ⟨g1, g2.1, g2.2, g3⟩
        · rw [if_neg c3] at g2 ⊢; exact ⟨g1, g2.1, g2.2, g3⟩
      · rw [if_neg c2] at g2 ⊢; exact ⟨g1, g2.1, g2.2.trans hv, g3⟩
    · rw [if_neg c1, if_neg c1, if_pos rfl, (dpy_dg hb).1, px_b1_s]
      by_cases c2 : dDg bt n a = true
      · rw [if_pos c2, if_pos c2, if_neg (by decide), dw_b1]
        exact dw_mono (dnumC h ha hv ha2) fun σ' ⟨g1, g2, g3, g4⟩ => dw_some.mpr ⟨g1, g2, g3, g4⟩
      · rw [if_neg c2, if_neg c2, if_pos rfl]
        have hba := hb a c
        have hpk : dpy bt n a = 59 ↔ bt a = 59 := by
          rw [dpy_n c, show (59 : Int32) = dn 59 from rfl, dn_inj (by omega) (by omega)]
        by_cases c3 : bt a = 59
        · rw [if_pos (hpk.mpr c3), if_pos c3, dw_l, dw_l, dw_some, show px_up σ (6, 0, 0) 11 4 (6, 0, 0) 10 + 1 = dn (a + 1) from by rw [up_6, if_neg (by omega), ha]; exact dn_suc a]
          exact ⟨by rw [up_6, if_pos rfl], by rw [up_6, if_neg (by omega), up_6, if_pos rfl]; rfl, by rw [up_6, if_neg (by omega), up_6, if_neg (by omega)]; exact hv, d6_trans (d6_up (by simp)) (d6_up (by simp))⟩
        · rw [if_neg (fun z => c3 (hpk.mp z)), if_neg c3, dw_l, dw_l, dw_some, show px_up σ (6, 0, 0) 11 5 (6, 0, 0) 10 + 1 = dn (a + 1) from by rw [up_6, if_neg (by omega), ha]; exact dn_suc a]
          exact ⟨by rw [up_6, if_pos rfl], by rw [up_6, if_neg (by omega), up_6, if_pos rfl]; rfl, by rw [up_6, if_neg (by omega), up_6, if_neg (by omega)]; exact hv, d6_trans (d6_up (by simp)) (d6_up (by simp))⟩
  · have hpk : dpy bt n a = -1 := if_neg c
    rw [if_neg c, hpk, if_neg (by decide), dw_l, dw_some]
    exact ⟨by rw [up_6, if_neg (by omega)]; exact ha, by rw [up_6, if_pos rfl]; rfl, by rw [up_6, if_neg (by omega)]; exact hv, d6_up (by simp)⟩
/-- the reference: a token -/
theorem dtokM (h : dKM μ bt n) (ha : μ (0, 0, 0) 18 = dn a) (ha2 : a < 1000000) : dw (F_Mo_token μ) (fun μ' => μ' (0, 0, 0) 18 = dn (dTk bt n a).2.2.2.2 ∧ μ' (0, 0, 0) 19 = dn (dTk bt n a).2.2.2.1 ∧ μ' (0, 0, 0) 20 = dn (dRk (dTk bt n a).1) ∧ ((dTk bt n a).1 = 1 ∨ (dTk bt n a).1 = 2 → μ' (0, 0, 0) 21 = (dTk bt n a).2.1) ∧ ((dTk bt n a).1 = 3 → μ' (0, 0, 0) 21 = dn (dTk bt n a).2.2.1) ∧ d0 [18, 19, 20, 21] μ μ') := by
  have hn := h.hn
  have hb := fun t ht => (h.b t ht).1
  have hbl := dE_p (f := dBl bt n) (n := n) dBl_n a
  unfold F_Mo_token dTk
  rw [dw_b1]
  refine dw_mono (dskipM h ha ha2) fun τ ⟨g1, g2⟩ => ?_
  have ha3 : dE (dBl bt n) n a < 1000000 := by have := hbl.2.2.2; omega
  generalize dE (dBl bt n) n a = b at g1 ha3
  rw [dw_l, g1]
  have k1 : d0 [18, 19, 20, 21] μ (px_up τ (0, 0, 0) 19 (dn b)) := d0_trans (d0_le g2 (by simp)) (d0_up (by simp))
  have k2 : px_up τ (0, 0, 0) 19 (dn b) (0, 0, 0) 18 = dn b := by rw [up_0, if_neg (by omega)]; exact g1
  have k3 : px_up τ (0, 0, 0) 19 (dn b) (0, 0, 0) 19 = dn b := by rw [up_0, if_pos rfl]
  generalize px_up τ (0, 0, 0) 19 (dn b) = τ1 at k1 k2 k3
  have hτ := dKM_0 h (by simp) k1
  refine dw_v (dhere hτ k2 (by omega)) ?_
  have hl := dE_p (f := dLt bt n) (n := n) dLt_n b
  have hll : ∀ x, b ≤ x → x < dE (dLt bt n) n b → 97 ≤ bt x ∧ bt x ≤ 122 := fun x x1 x2 => (dLt_b (hl.2.1 x x1 x2)).2
  unfold dTa
  by_cases c : b < n
  · have hbb := hb b c
    rw [if_pos c, if_neg (by rw [dpy_n c]; exact dn_m1 (by omega)), (dpy_lt hb).2, px_b1_s]
    by_cases c1 : dLt bt n b = true
    · rw [if_pos c1, if_pos c1, if_neg (by decide), dw_b1]
      refine dw_mono (dsmallM hτ k2 ha3) fun τ2 ⟨q1, q2⟩ => ?_
      have k4 : d0 [18, 19, 20, 21] μ τ2 := d0_trans k1 (d0_le q2 (by simp))
      have q3 : τ2 (0, 0, 0) 19 = dn b := by rw [q2.1 _ (by simp)]; exact k3
      have hτ2 := dKM_0 h (by simp) k4
      have hen : dE (dLt bt n) n b ≤ n := by have := hl.2.2.2; omega
      refine dw_v (dwordM hτ2 q3 q1 hl.1 hen) ?_
      rw [dw_l, up_0, if_pos rfl, up_0, if_neg (show ¬ (18 : Nat) = 21 by omega), up_0, if_neg (show ¬ (19 : Nat) = 21 by omega), q1, q3, dn_sub hl.1]
      by_cases c3 : dWrd bt b (dE (dLt bt n) n b) = -1
      · rw [if_pos c3]
        by_cases c2 : dE (dLt bt n) n b - b ≤ 6
        · rw [if_pos (by rw [show (6 : Int32) = dn 6 from rfl, dn_le (by omega) (by omega)]; exact c2), if_pos c2, if_pos c3, dw_l, up_0, if_pos rfl, if_pos rfl, dw_b1]
          have k5 : d0 [20, 21] τ2 (px_up (px_up τ2 (0, 0, 0) 21 (dWrd bt b (dE (dLt bt n) n b))) (0, 0, 0) 20 1) := d0_trans (d0_up (by simp)) (d0_up (by simp))
          have k6 : px_up (px_up τ2 (0, 0, 0) 21 (dWrd bt b (dE (dLt bt n) n b))) (0, 0, 0) 20 1 (0, 0, 0) 20 = 1 := by rw [up_0, if_pos rfl]
          generalize px_up (px_up τ2 (0, 0, 0) 21 (dWrd bt b (dE (dLt bt n) n b))) (0, 0, 0) 20 1 = τ3 at k5 k6
          refine dw_mono (dnameM (dKM_0 hτ2 (by simp) k5) (by rw [k5.1 _ (by simp)]; exact q3) (by rw [k5.1 _ (by simp)]; exact q1) hl.1 hen hll) fun τ4 ⟨p1, p2⟩ => dw_some.mpr ?_
          exact ⟨by rw [p2.1 _ (by simp), k5.1 _ (by simp)]; exact q1, by rw [p2.1 _ (by simp), k5.1 _ (by simp)]; exact q3, by rw [p2.1 _ (by simp)]; exact k6, fun _ => p1, fun z => absurd z (by show ¬ 1 = 3; omega), d0_trans k4 (d0_trans (d0_le k5 (by simp)) (d0_le p2 (by simp)))⟩
        · rw [if_neg (by rw [show (6 : Int32) = dn 6 from rfl, dn_le (by omega) (by omega)]; exact c2), if_neg c2, dw_l, up_0, if_pos rfl, if_neg (by decide), dw_some]
          exact ⟨by rw [up_0, if_neg (by omega), up_0, if_neg (by omega)]; exact q1, by rw [up_0, if_neg (by omega), up_0, if_neg (by omega)]; exact q3, by rw [up_0, if_pos rfl]; rfl, fun z => absurd z (by show ¬ (5 = 1 ∨ 5 = 2); omega), fun z => absurd z (by show ¬ 5 = 3; omega), d0_trans k4 (d0_trans (d0_up (by simp)) (d0_up (by simp)))⟩
      · rw [if_neg c3]
        -- a word is short
        have c2 : dE (dLt bt n) n b - b ≤ 6 := by
          rcases dWx_c (M := dMt bt b (dE (dLt bt n) n b)) with ⟨i, i1, i2⟩ | z
          · unfold dWx at i2
            cases e : (List.range 14).find? (dMt bt b (dE (dLt bt n) n b)) with
            | none =>
              rw [e] at i2
              exact absurd i2.symm (dn_m1 (by omega))
            | some j =>
              have h1 := List.find?_some e
              have h2 := List.mem_range.mp (List.mem_of_find?_eq_some e)
              rw [dMt_i] at h1
              have := (wL_6 j h2).2
              omega
          · exact absurd z c3
        rw [if_pos c2, if_neg c3, dw_l, up_0, if_pos rfl, if_neg (by decide), dw_some]
        exact ⟨by rw [up_0, if_neg (by omega), up_0, if_neg (by omega)]; exact q1, by rw [up_0, if_neg (by omega), up_0, if_neg (by omega)]; exact q3, by rw [up_0, if_pos rfl]; rfl, fun _ => by rw [up_0, if_neg (by omega), up_0, if_pos rfl], fun z => absurd z (by show ¬ 2 = 3; omega), d0_trans k4 (d0_trans (d0_up (by simp)) (d0_up (by simp)))⟩
    · rw [if_neg c1, if_neg c1, if_pos rfl, (dpy_dg hb).2, px_b1_s]
      by_cases c2 : dDg bt n b = true
      · rw [if_pos c2, if_pos c2, if_neg (by decide), dw_l, dw_l, dw_b1]
        have k5 : d0 [20, 21] τ1 (px_up (px_up τ1 (0, 0, 0) 20 2) (0, 0, 0) 21 0) := d0_trans (d0_up (by simp)) (d0_up (by simp))
        have k6 : px_up (px_up τ1 (0, 0, 0) 20 2) (0, 0, 0) 21 0 (0, 0, 0) 20 = 2 := by rw [up_0, if_neg (by omega), up_0, if_pos rfl]
        have k7 : px_up (px_up τ1 (0, 0, 0) 20 2) (0, 0, 0) 21 0 (0, 0, 0) 21 = 0 := by rw [up_0, if_pos rfl]
        generalize px_up (px_up τ1 (0, 0, 0) 20 2) (0, 0, 0) 21 0 = τ3 at k5 k6 k7
        refine dw_mono (dnumM (dKM_0 hτ (by simp) k5) (by rw [k5.1 _ (by simp)]; exact k2) k7 ha3) fun τ4 ⟨p1, p2, p3⟩ => dw_some.mpr ?_
        exact ⟨p1, by rw [p3.1 _ (by simp), k5.1 _ (by simp)]; exact k3, by rw [p3.1 _ (by simp)]; exact k6, fun z => absurd z (by show ¬ (3 = 1 ∨ 3 = 2); omega), fun _ => p2, d0_trans k1 (d0_trans (d0_le k5 (by simp)) (d0_le p3 (by simp)))⟩
      · rw [if_neg c2, if_neg c2, if_pos rfl]
        have hpk : dpy bt n b = 59 ↔ bt b = 59 := by
          rw [dpy_n c, show (59 : Int32) = dn 59 from rfl, dn_inj (by omega) (by omega)]
        by_cases c3 : bt b = 59
        · rw [if_pos (hpk.mpr c3), if_pos c3, dw_l, dw_l, dw_some, show px_up τ1 (0, 0, 0) 20 3 (0, 0, 0) 18 + 1 = dn (b + 1) from by rw [up_0, if_neg (by omega), k2]; exact dn_suc b]
          exact ⟨by rw [up_0, if_pos rfl], by rw [up_0, if_neg (by omega), up_0, if_neg (by omega)]; exact k3, by rw [up_0, if_neg (by omega), up_0, if_pos rfl]; rfl, fun z => absurd z (by show ¬ (4 = 1 ∨ 4 = 2); omega), fun z => absurd z (by show ¬ 4 = 3; omega), d0_trans k1 (d0_trans (d0_up (by simp)) (d0_up (by simp)))⟩
        · rw [if_neg (fun z => c3 (hpk.mp z)), if_neg c3, dw_l, dw_l, dw_some, show px_up τ1 (0, 0, 0) 20 5 (0, 0, 0) 18 + 1 = dn (b + 1) from by rw [up_0, if_neg (by omega), k2]; exact dn_suc b]
          exact ⟨by rw [up_0, if_pos rfl], by rw [up_0, if_neg (by omega), up_0, if_neg (by omega)]; exact k3, by rw [up_0, if_neg (by omega), up_0, if_pos rfl]; rfl, fun z => absurd z (by show ¬ (5 = 1 ∨ 5 = 2); omega), fun z => absurd z (by show ¬ 5 = 3; omega), d0_trans k1 (d0_trans (d0_up (by simp)) (d0_up (by simp)))⟩
  · have hpk : dpy bt n b = -1 := if_neg c
    rw [if_neg c, hpk, if_pos rfl, dw_l, dw_some]
    exact ⟨by rw [up_0, if_neg (by omega)]; exact k2, by rw [up_0, if_neg (by omega)]; exact k3, by rw [up_0, if_pos rfl]; rfl, fun z => absurd z (by show ¬ (0 = 1 ∨ 0 = 2); omega), fun z => absurd z (by show ¬ 0 = 3; omega), d0_trans k1 (d0_up (by simp))⟩
/-- the last token -/
theorem dEnd_ex (hn : n ≤ 700) : ∃ m, m ≤ n ∧ (dTs' bt n m).1 = 0 ∧ (∀ k, k < m → (dTs' bt n k).1 ≠ 0) ∧ ∀ k, k ≤ m → k ≤ dPs bt n k ∧ dPs bt n k ≤ n := by
  obtain ⟨m, m1, m2, m3⟩ := dleast (fun k => (dTs' bt n k).1 = 0) n
  have hps : ∀ k, k ≤ m → k ≤ dPs bt n k ∧ dPs bt n k ≤ n := by
    intro k
    induction k with
    | zero => intro _; exact ⟨Nat.le_refl _, Nat.zero_le _⟩
    | succ k ih =>
      intro hk
      obtain ⟨h1, h2⟩ := ih (by omega)
      have hne := m2 k (by omega)
      rw [dTs_k] at hne
      have hbl := dE_p (f := dBl bt n) (n := n) dBl_n (dPs bt n k)
      have tf := dTa_f (bt := bt) (n := n) (a := dE (dBl bt n) n (dPs bt n k))
      have e1 : dPs bt n (k + 1) = (dTk bt n (dPs bt n k)).2.2.2.2 := by
        show (dTs' bt n k).2.2.2.2 = _
        rw [dTs_k]
      have hlt : dE (dBl bt n) n (dPs bt n k) < n := by
        refine Classical.byContradiction fun z => hne ?_
        exact tf.k0.mpr (by omega)
      have := tf.gt hlt
      have := tf.nx.2
      rw [e1]
      unfold dTk
      omega
  refine ⟨m, m1, ?_, m2, hps⟩
  rcases m3 with z | z
  · rw [dTs_k]
    have h1 := (hps m (Nat.le_refl _)).1
    have hbl := (dE_p (f := dBl bt n) (n := n) dBl_n (dPs bt n m)).1
    exact (dTa_f (bt := bt) (n := n) (a := dE (dBl bt n) n (dPs bt n m))).k0.mpr (by omega)
  · exact z
end H4
end
section
/-! the class: all tokens cut -/
def dFr5 (σ σ' : pxS) : Prop := (∀ q, q ∉ [7, 9, 10, 11, 12] → σ' (6, 0, 0) q = σ (6, 0, 0) q) ∧ ∀ j, j ≠ (6, 0, 0) → j ≠ (12, 1, 0) → j ≠ (12, 2, 0) → j ≠ (12, 3, 0) → σ' j = σ j
abbrev dTkR (σ : pxS) (bt : Nat → Nat) (n t : Nat) : Prop := (∀ k, k < t → σ (12, 1, 0) k = dn (dTs' bt n k).1 ∧ σ (12, 2, 0) k = (dTs' bt n k).2.1 ∧ σ (12, 3, 0) k = dn (dTs' bt n k).2.2.2.1)
theorem dTkR.r {σ : pxS} {bt : Nat → Nat} {n t : Nat} (h0 : dTkR σ bt n t) : ∀ k, k < t → σ (12, 1, 0) k = dn (dTs' bt n k).1 ∧ σ (12, 2, 0) k = (dTs' bt n k).2.1 ∧ σ (12, 3, 0) k = dn (dTs' bt n k).2.2.2.1 := h0
section H5
variable {σ σ' μ μ' : pxS} {bt : Nat → Nat} {n a : Nat}
theorem dFr5_6 {qs : List Nat} {τ : pxS} (h : dFr5 σ σ') (g : d6 qs σ' τ) (hs : ∀ q ∈ qs, q ∈ [7, 9, 10, 11, 12]) : dFr5 σ τ := ⟨fun q hq => (g.1 q fun z => hq (hs q z)).trans (h.1 q hq), fun j h0 h1 h2 h3 => (g.2 j h0).trans (h.2 j h0 h1 h2 h3)⟩
theorem dFr5_up {i : pxI} {q : Nat} {v : Int32} (h : dFr5 σ σ') (hi : i = (12, 1, 0) ∨ i = (12, 2, 0) ∨ i = (12, 3, 0)) : dFr5 σ (px_up σ' i q v) := by
  have key : ∀ j, j ≠ i → px_up σ' i q v j = σ' j := fun j hj => by funext x; simp [px_up, hj]
  refine ⟨fun x hx => ?_, fun j h0 h1 h2 h3 => ?_⟩
  · rw [key _ (by rcases hi with e | e | e <;> rw [e] <;> simp)]; exact h.1 x hx
  · rw [key _ (by rcases hi with e | e | e <;> rw [e] <;> assumption)]; exact h.2 j h0 h1 h2 h3
theorem up_12 {a q : Nat} {v : Int32} {j : pxI} {x : Nat} : px_up σ (12, a, 0) q v j x = if j = (12, a, 0) ∧ x = q then v else σ j x := rfl
theorem dcutAll {m : Nat} (hn : n ≤ 700) (hb : ∀ t, t < n → bt t < 256 ∧ σ (5, 0, 0) t &&& 255 = dn (bt t)) (wl : ∀ k, k < 14 → σ (12, 0, 0) k = dn (dNm (wX k) 6)) (hm : m ≤ n) (h0 : (dTs' bt n m).1 = 0) (h1 : ∀ k, k < m → (dTs' bt n k).1 ≠ 0) (hp : ∀ k, k ≤ m → k ≤ dPs bt n k ∧ dPs bt n k ≤ n) : dw (F_Re_cutAll σ (dn n)) (fun σ' => σ' (6, 0, 0) 7 = dn (m + 1) ∧ dTkR σ' bt n (m + 1) ∧ dFr5 σ σ') := by
  unfold F_Re_cutAll
  simp only [dw_l]
  generalize hτ : px_up (px_up (px_up σ (6, 0, 0) 9 (dn n)) (6, 0, 0) 10 0) (6, 0, 0) 11 (-1) = τ
  have k6 : d6 [9, 10, 11] σ τ := by rw [← hτ]; exact d6_trans (d6_trans (d6_up (by simp)) (d6_up (by simp))) (d6_up (by simp))
  have kb : dKB τ bt n := ⟨hn, fun t ht => by rw [k6.2 _ (by simp)]; exact hb t ht, by rw [← hτ, up_6, if_neg (by omega), up_6, if_neg (by omega), up_6, if_pos rfl]⟩
  have k10 : τ (6, 0, 0) 10 = dn (dPs bt n 0) := by rw [← hτ, up_6, if_neg (by omega), up_6, if_pos rfl]; rfl
  have k11 : τ (6, 0, 0) 11 = -1 := by rw [← hτ, up_6, if_pos rfl]
  have kf : dFr5 σ τ := ⟨fun q hq => k6.1 q fun z => hq (by simp at z ⊢; omega), fun j hj _ _ _ => k6.2 j hj⟩
  have hk5 : ∀ k, (dTs' bt n k).1 ≤ 5 := fun k => by rw [dTs_k]; exact (dTa_f (bt := bt) (n := n) (a := dE (dBl bt n) n (dPs bt n k))).k5
  rw [dw_b1]
  refine dw_mono (P := fun σ' => σ' (6, 0, 0) 7 = dn (m + 1) ∧ dTkR σ' bt n (m + 1) ∧ dFr5 σ σ') ?_ fun σ' h => dw_some.mpr h
  refine dw_up (m + 1) (by unfold px_N; omega) (fun t s => s.1 = dn t ∧ (t ≤ m → s.2 (6, 0, 0) 10 = dn (dPs bt n t)) ∧ (s.2 (6, 0, 0) 11 = if t = 0 then -1 else dn (dTs' bt n (t - 1)).1) ∧ (0 < t → s.2 (6, 0, 0) 7 = dn t) ∧ dTkR s.2 bt n t ∧ dKB s.2 bt n ∧ dFr5 σ s.2) (fun t s ht hI => ?_) (fun s hI => ?_) (Nat.zero_le _) ⟨rfl, fun _ => k10, by rw [if_pos rfl]; exact k11, fun z => absurd z (by omega), fun k hk => absurd hk (by omega), kb, kf⟩
  · obtain ⟨v, τ⟩ := s
    obtain ⟨rfl, i10, i11, i7, ir, ib, jf⟩ := hI
    dsimp only at i10 i11 i7 ir ib jf
    show dw (Re_cutAll_n17 τ (dn t)) _
    unfold Re_cutAll_n17
    have hp1 := hp t (by omega)
    have hbl := dE_p (f := dBl bt n) (n := n) dBl_n (dPs bt n t)
    rw [if_neg (by rw [show (700 : Int32) = dn 700 from rfl, dn_lt (by omega) (by omega)]; omega), if_neg (by
      rw [i11]
      by_cases c : t = 0
      · rw [if_pos c]; decide
      · rw [if_neg c, show (0 : Int32) = dn 0 from rfl, dn_inj (by have := hk5 (t - 1); omega) (by omega)]
        exact h1 _ (by omega)), dw_b1]
    refine dw_mono (dskipC ib (i10 (by omega)) (by omega)) fun τ1 ⟨g1, g2⟩ => dw_gi (by omega) (by omega) ?_
    rw [dn_nat (by omega)]
    simp only [dw_l]
    have b1 : dKB τ1 bt n := dKB_6 ib (by simp) g2
    have f1 : dFr5 σ τ1 := dFr5_6 jf g2 (by simp)
    have hE : dE (dBl bt n) n (dPs bt n t) ≤ n := by have := hbl.2.2.2; omega
    have hT : dTs' bt n t = dTa bt n (dE (dBl bt n) n (dPs bt n t)) := dTs_k t
    have hpl : (dTs' bt n t).2.2.2.1 = dE (dBl bt n) n (dPs bt n t) := by rw [hT]; exact dTa_f.pl
    rw [g1, ← hpl]
    rw [← hpl] at g1 hE hT
    generalize hτ2 : px_up τ1 (12, 3, 0) t (dn (dTs' bt n t).2.2.2.1) = τ2
    have f2 : dFr5 σ τ2 := by rw [← hτ2]; exact dFr5_up f1 (by simp)
    have e2 : ∀ j, j ≠ (12, 3, 0) → τ2 j = τ1 j := fun j hj => by rw [← hτ2]; funext x; simp [px_up, hj]
    have r2 : dTkR τ2 bt n t ∧ τ2 (12, 3, 0) t = dn (dTs' bt n t).2.2.2.1 := by
      refine ⟨fun k hk => ?_, by rw [← hτ2, up_12, if_pos ⟨rfl, rfl⟩]⟩
      have := ir.r k hk
      rw [e2 _ (by simp), e2 _ (by simp), g2.2 _ (by simp), g2.2 _ (by simp), ← hτ2, up_12, if_neg (fun z => absurd z.2 (by omega)), g2.2 _ (by simp)]
      exact this
    generalize hτ3 : px_up τ2 (6, 0, 0) 12 0 = τ3
    have g3 : d6 [12] τ2 τ3 := by rw [← hτ3]; exact d6_up (by simp)
    have b3 : dKB τ3 bt n := ⟨hn, fun x hx => by rw [g3.2 _ (by simp), e2 _ (by simp)]; exact b1.b x hx, by rw [g3.1 _ (by simp), e2 _ (by simp)]; exact b1.l⟩
    have a3 : τ3 (6, 0, 0) 10 = dn (dTs' bt n t).2.2.2.1 := by rw [g3.1 _ (by simp), e2 _ (by simp)]; exact g1
    refine dw_v (dpeek b3 a3 (by omega)) ?_
    rw [dw_b1]
    have w3 : ∀ k, k < 14 → τ3 (12, 0, 0) k = dn (dNm (wX k) 6) := fun k hk => by
      rw [g3.2 _ (by simp), f2.2 _ (by simp) (by simp) (by simp) (by simp)]; exact wl k hk
    refine dw_mono (dtokC b3 w3 a3 (by rw [← hτ3, up_6, if_pos rfl]) (by omega)) fun τ4 ⟨q1, q2, q3, q4⟩ => dw_gi (by omega) (by omega) ?_
    simp only [dw_l]
    rw [← hT] at q1 q2 q3
    have f4 : dFr5 σ τ4 := dFr5_6 (dFr5_6 f2 g3 (by simp)) q4 (by simp)
    have b4 : dKB τ4 bt n := dKB_6 b3 (by simp) q4
    have r4 : dTkR τ4 bt n t ∧ τ4 (12, 3, 0) t = dn (dTs' bt n t).2.2.2.1 := by
      have e : ∀ x, τ4 (12, x, 0) = τ2 (12, x, 0) := fun x => by rw [q4.2 _ (by simp), g3.2 _ (by simp)]
      exact ⟨fun k hk => by rw [e, e, e]; exact r2.1.r k hk, by rw [e]; exact r2.2⟩
    rw [show px_up τ4 (12, 1, 0) t (τ4 (6, 0, 0) 11) = px_up τ4 (12, 1, 0) t (dn (dTs' bt n t).1) from by rw [q2]]
    refine dw_gi (by omega) (by omega) ?_
    simp only [dw_l, dw_some, dR_l]
    rw [show px_up τ4 (12, 1, 0) t (dn (dTs' bt n t).1) (6, 0, 0) 12 = τ4 (6, 0, 0) 12 from by rw [up_12, if_neg (by simp)], q3]
    generalize hτ5 : px_up (px_up τ4 (12, 1, 0) t (dn (dTs' bt n t).1)) (12, 2, 0) t (dTs' bt n t).2.1 = τ5
    have f5 : dFr5 σ τ5 := by rw [← hτ5]; exact dFr5_up (dFr5_up f4 (by simp)) (by simp)
    have e5 : ∀ j, j ≠ (12, 1, 0) → j ≠ (12, 2, 0) → τ5 j = τ4 j := fun j h1 h2 => by rw [← hτ5]; funext x; simp [px_up, h1, h2]
    have r5 : dTkR τ5 bt n (t + 1) := by
      refine fun k hk => ?_
      rw [e5 (12, 3, 0) (by simp) (by simp), ← hτ5, up_12, if_neg (by simp), up_12, up_12, up_12]
      by_cases c : k = t
      · rw [c, if_pos ⟨rfl, rfl⟩, if_pos ⟨rfl, rfl⟩]; exact ⟨rfl, rfl, r4.2⟩
      · rw [if_neg (fun z => c z.2), if_neg (fun z => c z.2), if_neg (fun z => c z.2)]
        exact r4.1.r k (by omega)
    generalize hτ6 : px_up τ5 (6, 0, 0) 7 (dn t + 1) = τ6
    have g6 : d6 [7] τ5 τ6 := by rw [← hτ6]; exact d6_up (by simp)
    refine ⟨dn_suc t, fun hm => ?_, ?_, fun _ => ?_, ?_, ?_, ?_⟩
    · show τ6 (6, 0, 0) 10 = _
      rw [g6.1 _ (by simp), e5 _ (by simp) (by simp), q1]
      rfl
    · show τ6 (6, 0, 0) 11 = _
      rw [g6.1 _ (by simp), e5 _ (by simp) (by simp), q2, if_neg (by omega)]
      rfl
    · show τ6 (6, 0, 0) 7 = _
      rw [← hτ6, up_6, if_pos rfl, dn_suc]
    · refine fun k hk => ?_
      show τ6 _ _ = _ ∧ τ6 _ _ = _ ∧ τ6 _ _ = _
      rw [g6.2 _ (by simp), g6.2 _ (by simp), g6.2 _ (by simp)]
      exact r5.r k hk
    · exact ⟨hn, fun x hx => by
        show bt x < 256 ∧ τ6 _ _ &&& 255 = _
        rw [g6.2 _ (by simp), e5 _ (by simp) (by simp)]; exact b4.b x hx, by
        show τ6 _ _ = _
        rw [g6.1 _ (by simp), e5 _ (by simp) (by simp)]; exact b4.l⟩
    · exact dFr5_6 f5 g6 (by simp)
  · obtain ⟨v, τ⟩ := s
    obtain ⟨rfl, i10, i11, i7, ir, ib, jf⟩ := hI
    dsimp only at i10 i11 i7 ir ib jf
    show dw (Re_cutAll_n17 τ (dn (m + 1))) _
    unfold Re_cutAll_n17
    have key : dR (fun _ => False) (fun σ' : pxS => σ' (6, 0, 0) 7 = dn (m + 1) ∧ dTkR σ' bt n (m + 1) ∧ dFr5 σ σ') (Sum.inr τ : (Int32 × pxS) ⊕ pxS) := ⟨i7 (by omega), ir, jf⟩
    by_cases c : (700 : Int32) < dn (m + 1)
    · rw [if_pos c]; exact dw_some.mpr key
    · rw [if_neg c, if_pos (by rw [i11, if_neg (by omega), Nat.add_sub_cancel, h0]; rfl)]
      exact dw_some.mpr key
end H5
end
