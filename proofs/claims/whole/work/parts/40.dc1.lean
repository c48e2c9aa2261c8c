section
/-! total runs: 'o' ends, and what it gives is as told -/
def dw {α : Type} (o : Option α) (Q : α → Prop) : Prop := ∃ a, o = some a ∧ Q a
section DW
variable {α β γ : Type} {Q : β → Prop}
theorem dw_mono {o : Option β} {P Q : β → Prop} (h : dw o P) (hm : ∀ a, P a → Q a) : dw o Q := by
  obtain ⟨a, e, h⟩ := h
  exact ⟨a, e, hm a h⟩
theorem dw_eq {o : Option β} {a : β} (e : o = some a) (h : Q a) : dw o Q := ⟨a, e, h⟩
theorem dw_some {a : β} : dw (some a) Q ↔ Q a := ⟨fun ⟨_, e, h⟩ => by cases e; exact h, fun h => ⟨a, rfl, h⟩⟩
theorem dw_none : ¬ dw (none : Option β) Q := fun ⟨_, e, _⟩ => by cases e
theorem dw_b1 {o : Option α} {f : α → Option β} : dw (px_b1 o f) Q ↔ dw o (fun a => dw (f a) Q) := by
  cases o with
  | none => exact ⟨fun ⟨_, e, _⟩ => (by cases e), fun ⟨_, e, _⟩ => (by cases e)⟩
  | some a => exact ⟨fun h => ⟨a, rfl, h⟩, fun ⟨b, e, h⟩ => by cases e; exact h⟩
theorem dw_b2 {o : Option (α × γ)} {f : α → γ → Option β} : dw (px_b2 o f) Q ↔ dw o (fun a => dw (f a.1 a.2) Q) := by
  cases o with
  | none => exact ⟨fun ⟨_, e, _⟩ => (by cases e), fun ⟨_, e, _⟩ => (by cases e)⟩
  | some a => exact ⟨fun h => ⟨a, rfl, h⟩, fun ⟨b, e, h⟩ => by cases e; exact h⟩
theorem dw_l {a : α} {f : α → Option β} : dw (px_l a f) Q ↔ dw (f a) Q := Iff.rfl
theorem dw_gd {j : Int32} {N : Nat} {A : Option β} : dw (px_gd j N A) Q ↔ (¬ j < 0 ∧ j.toNatClampNeg < N) ∧ dw A Q := by
  unfold px_gd
  constructor
  · intro h
    by_cases c : ¬ j < 0 ∧ j.toNatClampNeg < N
    · rw [if_pos c] at h; exact ⟨c, h⟩
    · rw [if_neg c] at h; exact absurd h dw_none
  · intro ⟨c, h⟩; rw [if_pos c]; exact h
theorem dw_gz {j : Int32} {A : Option β} : dw (px_gz j A) Q ↔ j ≠ 0 ∧ dw A Q := by
  unfold px_gz
  by_cases c : j = 0
  · rw [if_pos c]; exact ⟨fun h => absurd h dw_none, fun h => absurd c h.1⟩
  · rw [if_neg c]; exact ⟨fun h => ⟨c, h⟩, fun h => h.2⟩
theorem dw_gb {j : Int32} {A : Option β} : dw (px_gb j A) Q ↔ (j = 0 ∨ j = 1) ∧ dw A Q := by
  unfold px_gb
  by_cases c : j = 0 ∨ j = 1
  · rw [if_pos c]; exact ⟨fun h => ⟨c, h⟩, fun h => h.2⟩
  · rw [if_neg c]; exact ⟨fun h => absurd h dw_none, fun h => absurd h.1 c⟩
theorem dw_ite {c : Prop} {_ : Decidable c} {A B : Option β} (h1 : c → dw A Q) (h2 : ¬ c → dw B Q) : dw (if c then A else B) Q := by
  by_cases hc : c
  · rw [if_pos hc]; exact h1 hc
  · rw [if_neg hc]; exact h2 hc
/-- a round's end: the next round's state, or the loop's end -/
def dR {S E : Type} (I : S → Prop) (Q : E → Prop) (r : S ⊕ E) : Prop := match r with
  | .inl s => I s
  | .inr e => Q e
theorem dR_l {S E : Type} {I : S → Prop} {Q : E → Prop} {s : S} : dR I Q (.inl s) ↔ I s := Iff.rfl
theorem dR_r {S E : Type} {I : S → Prop} {Q : E → Prop} {e : E} : dR I Q (.inr e) ↔ Q e := Iff.rfl
/-- a loop with a measure: each round ends it, or comes to a lesser one -/
theorem dw_it {S E : Type} {f : S → Option (S ⊕ E)} {Q : E → Prop} (I : Nat → S → Prop) (hs : ∀ k s, I k s → dw (f s) (dR (fun s' => ∃ k', k' < k ∧ I k' s') Q)) : ∀ (n : Nat) (k : Nat) (s : S), k < n → I k s → dw (px_it f n s) Q := by
  intro n
  induction n with
  | zero => intro k s hk; exact absurd hk (Nat.not_lt_zero _)
  | succ n ih =>
    intro k s hk hI
    obtain ⟨r, e, hr⟩ := hs k s hI
    unfold px_it
    rw [e]
    cases r with
    | inl s' =>
      obtain ⟨k', h1, h2⟩ := hr
      exact ih k' s' (by omega) h2
    | inr z => exact ⟨z, rfl, hr⟩
/-- a loop that counts up from i to N, and ends there -/
theorem dw_up {S E : Type} {f : S → Option (S ⊕ E)} {Q : E → Prop} (N : Nat) (hN : N < px_N) (I : Nat → S → Prop) (hs : ∀ i s, i < N → I i s → dw (f s) (dR (I (i + 1)) Q)) (hx : ∀ s, I N s → dw (f s) (dR (fun _ => False) Q)) {i : Nat} {s : S} (hi : i ≤ N) (h : I i s) : dw (px_it f px_N s) Q := by
  refine dw_it (fun k s => k ≤ N ∧ I (N - k) s) (fun k s hI => ?_) px_N (N - i) s (by omega) ⟨by omega, by rw [show N - (N - i) = i by omega]; exact h⟩
  by_cases hk : k = 0
  · subst hk
    obtain ⟨r, e, hr⟩ := hx s hI.2
    refine ⟨r, e, ?_⟩
    cases r with
    | inl s' => exact hr.elim
    | inr e => exact hr
  · obtain ⟨r, e, hr⟩ := hs (N - k) s (by omega) hI.2
    refine ⟨r, e, ?_⟩
    cases r with
    | inl s' => exact ⟨k - 1, by omega, by omega, by rw [show N - (k - 1) = N - k + 1 by omega]; exact hr⟩
    | inr e => exact hr
end DW
/-! small numbers -/
def dn (i : Nat) : Int32 := Int32.ofNat i
theorem dn_toInt {i : Nat} (h : i < 2147483648) : (dn i).toInt = i := by
  rw [dn, Int32.toInt_ofNat_of_lt h]
theorem dn_nat {i : Nat} (h : i < 2147483648) : (dn i).toNatClampNeg = i := by
  rw [Int32.toNatClampNeg, dn_toInt h]; rfl
theorem dn_nn {i : Nat} (h : i < 2147483648) : ¬ dn i < 0 := by
  rw [Int32.lt_iff_toInt_lt, dn_toInt h]; simp
theorem dn_le {i j : Nat} (hi : i < 2147483648) (hj : j < 2147483648) : dn i ≤ dn j ↔ i ≤ j := by
  rw [Int32.le_iff_toInt_le, dn_toInt hi, dn_toInt hj]; omega
theorem dn_lt {i j : Nat} (hi : i < 2147483648) (hj : j < 2147483648) : dn i < dn j ↔ i < j := by
  rw [Int32.lt_iff_toInt_lt, dn_toInt hi, dn_toInt hj]; omega
theorem dn_inj {i j : Nat} (hi : i < 2147483648) (hj : j < 2147483648) : dn i = dn j ↔ i = j :=
  ⟨fun e => by have := congrArg Int32.toInt e; rw [dn_toInt hi, dn_toInt hj] at this; omega, fun e => by rw [e]⟩
theorem dn_add (i j : Nat) : dn i + dn j = dn (i + j) := (Int32.ofNat_add i j).symm
theorem dn_mul (i j : Nat) : dn i * dn j = dn (i * j) := (Int32.ofNat_mul i j).symm
theorem dn_suc (i : Nat) : dn i + 1 = dn (i + 1) := dn_add i 1
theorem dn_pre (i : Nat) : dn (i + 1) + (-1) = dn i := by
  rw [← dn_suc, Int32.add_assoc]
  exact Int32.add_zero _
/-- a number that is known to be 0 or more -/
theorem dn_of {x : Int32} (h : 0 ≤ x.toInt) : x = dn x.toNatClampNeg := by
  apply Int32.toInt_inj.mp
  have := Int32.toInt_lt x
  rw [dn_toInt (by rw [Int32.toNatClampNeg]; omega), Int32.toNatClampNeg]
  omega
/-! bits -/
def db (x : Int32) (i : Nat) : Bool := x.toBitVec.getLsbD i

theorem db_ext {x y : Int32} (h : ∀ i, i < 32 → db x i = db y i) : x = y := by
  apply Int32.toBitVec_inj.mp
  exact BitVec.eq_of_getLsbD_eq fun i hi => h i hi
theorem db_or (x y : Int32) (i : Nat) : db (x ||| y) i = (db x i || db y i) := by
  simp [db]
theorem db_and (x y : Int32) (i : Nat) : db (x &&& y) i = (db x i && db y i) := by
  simp [db]
theorem db_zero (i : Nat) : db 0 i = false := by
  simp [db]
theorem db_big {x : Int32} {i : Nat} (h : 32 ≤ i) : db x i = false := by
  simp [db, BitVec.getLsbD_of_ge _ _ h]
theorem db_not {x : Int32} {i : Nat} (h : i < 32) : db (x ^^^ (-1)) i = !db x i := by
  have : (-1 : Int32).toBitVec = BitVec.allOnes 32 := by decide
  simp [db, this, h]
theorem db_m31 {i : Nat} (h : i < 32) : dn i &&& 31 = dn i := by
  have : ∀ i : Fin 32, dn i.val &&& 31 = dn i.val := by decide
  exact this ⟨i, h⟩
theorem db_one {i j : Nat} (h : i < 32) : db (1 <<< (dn i &&& 31)) j = decide (i = j) := by
  have : ∀ i j : Fin 32, db (1 <<< (dn i.val &&& 31)) j.val = decide (i.val = j.val) := by decide
  by_cases hj : j < 32
  · exact this ⟨i, h⟩ ⟨j, hj⟩
  · rw [db_big (by omega)]; simp; omega
theorem db_one0 (j : Nat) : db 1 j = decide (0 = j) := by
  have := @db_one 0 j (by omega)
  rw [db_m31 (by omega)] at this
  exact this
theorem db_sar {x : Int32} {i j : Nat} (h : i < 32) (hj : i + j < 32) : db (x >>> (dn i &&& 31)) j = db x (i + j) := by
  rw [db_m31 h]
  unfold db
  rw [Int32.toBitVec_shiftRight]
  have : ((dn i).toBitVec.smod 32).toNat = i := by
    have : ∀ i : Fin 32, ((dn i.val).toBitVec.smod 32).toNat = i.val := by decide
    exact this ⟨i, h⟩
  rw [BitVec.sshiftRight', this, BitVec.getLsbD_sshiftRight]
  simp [hj]; omega
theorem db_sh {x : Int32} {i : Nat} (h : i < 32) : (x >>> (dn i &&& 31)) &&& 1 = if db x i then 1 else 0 := by
  apply db_ext
  intro j hj
  rw [db_and, db_one0]
  by_cases h0 : 0 = j
  · subst h0
    rw [db_sar h (by omega)]
    cases hh : db x (i + 0) <;> simp at hh <;> simp [hh, db_one0, db_zero]
  · cases hh : db x i <;> simp [h0, db_one0, db_zero]
theorem db_sh0 {x : Int32} {i : Nat} (h : i < 32) : (x >>> (dn i &&& 31)) &&& 1 = 0 ↔ db x i = false := by
  rw [db_sh h]
  cases db x i <;> simp
theorem db_sh1 {x : Int32} {i : Nat} (h : i < 32) : (x >>> (dn i &&& 31)) &&& 1 = 1 ↔ db x i = true := by
  rw [db_sh h]
  cases db x i <;> simp
theorem db_sgn {x : Int32} : db x 31 = decide (x.toInt < 0) := by
  have := BitVec.msb_eq_toInt (x := x.toBitVec)
  rw [BitVec.msb_eq_getLsbD_last] at this
  exact this
theorem dn_nnI {i : Nat} (h : i < 2147483648) : 0 ≤ (dn i).toInt := by rw [dn_toInt h]; omega
theorem dn_div {i j : Nat} (hi : i < 2147483648) (hj : j < 2147483648) : dn i / dn j = dn (i / j) := by
  apply Int32.toInt_inj.mp
  have h0 : i / j ≤ i := Nat.div_le_self i j
  rw [Int32.toInt_div, dn_toInt hi, dn_toInt hj, dn_toInt (by omega), show ((i : Int).tdiv (j : Int)) = ((i / j : Nat) : Int) from by rw [Int.tdiv_eq_ediv_of_nonneg (by omega)]; rfl]
  generalize i / j = z at *
  rw [Int.bmod_eq_of_le (by omega) (by omega)]
theorem dn_sub {i j : Nat} (h : j ≤ i) : dn i - dn j = dn (i - j) := by
  rw [show i = (i - j) + j by omega, ← dn_add, show i - j + j - j = i - j by omega]
  exact Int32.add_sub_cancel _ _
theorem floorMod40 {σ : pxS} {x : Nat} (h : x < 2147483648) : F_Ma_floorMod σ (dn x) 40 = some (dn (x % 40)) := by
  have e0 : dn x - dn x / 40 * 40 = dn (x % 40) := by
    rw [show (40 : Int32) = dn 40 from rfl, dn_div h (by omega), dn_mul, dn_sub (by omega)]
    congr 1
    omega
  have hs : (0 : Int32) ≤ dn x ^^^ 40 := by
    rw [Int32.le_iff_toInt_le]
    have h1 : db (dn x ^^^ 40) 31 = false := by
      have : db (dn x ^^^ 40) 31 = (db (dn x) 31 ^^ db 40 31) := by simp [db]
      rw [this, db_sgn, dn_toInt h]
      have : db 40 31 = false := by decide
      rw [this]; simp
    rw [db_sgn] at h1
    simp at h1
    exact h1
  unfold F_Ma_floorMod px_gz
  rw [e0, if_neg (by decide), if_pos hs]
  rfl
end
section
/-! a row of rails: its list -/
abbrev dQ (σ : pxS) (k w : Nat) (l : List Nat) : Prop := (σ (4, k, w) 1 = dn l.length) ∧ (∀ t (h : t < l.length), σ (10, k, w) t = dn l[t]) ∧ (∀ i, i < 32 → db (σ (4, k, w) 2) i = decide (i ∈ l))
theorem dQ.s {σ : pxS} {k w : Nat} {l : List Nat} (h0 : dQ σ k w l) : σ (4, k, w) 1 = dn l.length := h0.1
theorem dQ.i {σ : pxS} {k w : Nat} {l : List Nat} (h0 : dQ σ k w l) : ∀ t (h : t < l.length), σ (10, k, w) t = dn l[t] := h0.2.1
theorem dQ.b {σ : pxS} {k w : Nat} {l : List Nat} (h0 : dQ σ k w l) : ∀ i, i < 32 → db (σ (4, k, w) 2) i = decide (i ∈ l) := h0.2.2
/-- none twice, all of a plan's rails -/
def dL (n : Nat) (l : List Nat) : Prop := l.Nodup ∧ ∀ i ∈ l, i < n
theorem dL_len {n : Nat} {l : List Nat} (h : dL n l) : l.length ≤ n := by
  have : l.Subset (List.range n) := fun i hi => List.mem_range.mpr (h.2 i hi)
  have := List.Nodup.length_le_of_subset h.1 this
  simpa using this
theorem dL_add {n : Nat} {l : List Nat} {i : Nat} (h : dL n l) (hi : i < n) (hn : i ∉ l) : dL n (l ++ [i]) := by
  refine ⟨?_, fun j hj => ?_⟩
  · rw [List.nodup_append]
    refine ⟨h.1, by simp, fun a ha b hb => ?_⟩
    simp at hb
    subst hb
    exact fun e => hn (e ▸ ha)
  · rcases List.mem_append.mp hj with hj | hj
    · exact h.2 j hj
    · simp at hj; omega
def dDrop (l : List Nat) (i : Nat) : List Nat := l.filter (fun j => j ≠ i)
theorem dL_drop {n : Nat} {l : List Nat} {i : Nat} (h : dL n l) : dL n (dDrop l i) :=
  ⟨h.1.filter _, fun j hj => h.2 j (List.mem_filter.mp hj).1⟩
theorem dQ_add {σ : pxS} {k w : Nat} {l : List Nat} {i n : Nat} (h : dQ σ k w l) (hl : dL n l) (hn : n ≤ 12) (hi : i < n) (hni : i ∉ l) : dw (F_Qu_add σ k w (dn i)) (fun σ' => dQ σ' k w (l ++ [i]) ∧ ∀ j, j ≠ (4, k, w) → j ≠ (10, k, w) → σ' j = σ j) := by
  have hL := dL_len (dL_add hl hi hni)
  simp at hL
  have hb : (σ (4, k, w) 2 >>> (dn i &&& 31)) &&& 1 = 0 := by
    rw [db_sh0 (by omega), h.b i (by omega)]
    simpa using hni
  unfold F_Qu_add
  rw [h.s, if_neg (by rw [show (12 : Int32) = dn 12 from rfl, dn_le (by omega) (by omega)]; omega), if_pos hb]
  simp only [dw_gd, dw_l, dw_some, dR_l, dR_r, dn_nat (show l.length < 2147483648 by omega)]
  refine ⟨⟨dn_nn (by omega), by omega⟩, ⟨?_, ?_, ?_⟩, ?_⟩
  · simp [px_up, h.s]; exact dn_suc _
  · intro t ht
    simp at ht
    by_cases e : t = l.length
    · subst e; simp [px_up]
    · have : t < l.length := by omega
      simp [px_up, e, List.getElem_append_left this, h.i t this]
  · intro j hj
    simp [px_up, db_or, h.b j hj, db_one (show i < 32 by omega), eq_comm]
  · intro j h1 h2
    funext q
    simp [px_up, h1, h2]
theorem dDrop_take {l : List Nat} {i t : Nat} (h : t < l.length) : dDrop (l.take (t + 1)) i = dDrop (l.take t) i ++ if l[t] = i then [] else [l[t]] := by
  rw [← List.take_append_getElem h, dDrop, List.filter_append]
  by_cases e : l[t] = i
  · simp [dDrop, e]
  · simp [dDrop, e]
theorem dDrop_len (l : List Nat) (i t : Nat) : (dDrop (l.take t) i).length ≤ t :=
  Nat.le_trans (List.length_filter_le _ _) (by simp; omega)
theorem dQ_drop {σ : pxS} {k w : Nat} {l : List Nat} {i n : Nat} (h : dQ σ k w l) (hl : dL n l) (hn : n ≤ 12) (hi : i < n) : dw (F_Qu_drop σ k w (dn i)) (fun σ' => dQ σ' k w (dDrop l i) ∧ ∀ j, j ≠ (4, k, w) → j ≠ (10, k, w) → σ' j = σ j) := by
  have hL := dL_len hl
  unfold F_Qu_drop
  rw [dw_b1]
  refine dw_up l.length (by unfold px_N; omega) (fun t s => s.1 = dn (dDrop (l.take t) i).length ∧ s.2.1 = dn t ∧ (∀ a (ha : a < (dDrop (l.take t) i).length), s.2.2 (10, k, w) a = dn (dDrop (l.take t) i)[a]) ∧ (∀ a (ha : a < l.length), t ≤ a → s.2.2 (10, k, w) a = dn l[a]) ∧ ∀ j, j ≠ (10, k, w) → s.2.2 j = σ j) (fun t s ht hI => ?_) (fun s hI => ?_) (Nat.zero_le _) ⟨rfl, rfl, fun a ha => absurd ha (by simp [dDrop]), fun a ha _ => h.i a ha, fun _ _ => rfl⟩
  · obtain ⟨v2, v3, τ⟩ := s
    obtain ⟨rfl, rfl, h1, h2, h3⟩ := hI
    dsimp only at h1 h2 h3
    have hl2 := dDrop_len l i t
    show dw (Qu_drop_n4 τ k w (dn i) _ _) _
    unfold Qu_drop_n4
    rw [show τ (4, k, w) 1 = dn l.length from (by rw [h3 _ (by simp)]; exact h.s), if_neg (by rw [dn_le (by omega) (by omega)]; omega), if_neg (by rw [show (12 : Int32) = dn 12 from rfl, dn_le (by omega) (by omega)]; omega)]
    simp only [dw_gd, dn_nat (show t < 2147483648 by omega), h2 t ht (Nat.le_refl t)]
    refine ⟨⟨dn_nn (by omega), by omega⟩, dw_ite (fun e => ?_) (fun e => ?_)⟩
    · rw [dn_inj (by have := hl.2 _ (List.getElem_mem ht); omega) (by omega)] at e
      unfold Qu_drop_n43
      have ed := dDrop_take (i := i) ht
      rw [if_pos e, List.append_nil] at ed
      simp only [dw_some, dR_l, dR_r, ed]
      exact ⟨trivial, dn_suc t, h1, fun a ha ht => h2 a ha (by omega), h3⟩
    · rw [dn_inj (by have := hl.2 _ (List.getElem_mem ht); omega) (by omega)] at e
      unfold Qu_drop_n43
      have ed := dDrop_take (i := i) ht
      rw [if_neg e] at ed
      simp only [dw_gd, dw_l, dw_some, dR_l, dR_r, dn_nat (show (dDrop (l.take t) i).length < 2147483648 by omega), dn_nat (show t < 2147483648 by omega)]
      refine ⟨⟨dn_nn (by omega), by omega⟩, ⟨dn_nn (by omega), by omega⟩, ?_, dn_suc t, ?_, ?_, ?_⟩
      · rw [ed, List.length_append]
        exact dn_suc _
      · intro a ha
        by_cases ea : a = (dDrop (l.take t) i).length
        · subst ea
          simp [px_up, ed]
        · have hl3 : a < (dDrop (l.take t) i).length := by
            rw [ed, List.length_append] at ha
            simp at ha; omega
          simp only [ed]
          rw [List.getElem_append_left hl3]
          simp [px_up, ea, h1 a hl3]
      · intro a ha hta
        have : a ≠ (dDrop (l.take t) i).length := by omega
        simp [px_up, this, h2 a ha (by omega)]
      · intro j hj
        funext q
        simp [px_up, hj, h3 j hj]
  · obtain ⟨v2, v3, τ⟩ := s
    obtain ⟨rfl, rfl, h1, h2, h3⟩ := hI
    dsimp only at h1 h2 h3
    show dw (Qu_drop_n4 τ k w (dn i) _ _) _
    unfold Qu_drop_n4
    rw [show τ (4, k, w) 1 = dn l.length from (by rw [h3 _ (by simp)]; exact h.s), if_pos (by rw [dn_le (by omega) (by omega)]; omega)]
    rw [List.take_length] at *
    simp only [dw_l, dw_some, dR_l, dR_r]
    refine ⟨⟨?_, ?_, ?_⟩, ?_⟩
    · simp [px_up]
    · intro a ha
      simp [px_up, h1 a ha]
    · intro j hj
      have e4 : τ (4, k, w) = σ (4, k, w) := h3 _ (by simp)
      have e5 : px_up (px_up τ (4, k, w) 1 (dn (dDrop l i).length)) (4, k, w) 2 (px_up τ (4, k, w) 1 (dn (dDrop l i).length) (4, k, w) 2 &&& (1 <<< (dn i &&& 31) ^^^ (-1))) (4, k, w) 2 = σ (4, k, w) 2 &&& (1 <<< (dn i &&& 31) ^^^ (-1)) := by simp [px_up, e4]
      rw [e5, db_and, db_not hj, db_one (show i < 32 by omega), h.b j hj]
      by_cases e : j = i
      · subst e; simp [dDrop]
      · simp [dDrop, e, Ne.symm e]
    · intro j h4 h10
      funext q
      simp [px_up, h4, h3 j h10]
end
section
/-! what both sides tell: a plan, a board. Fields of a rail and arrays of a plan by the class' numbers -/
abbrev dP : Type := Nat × Nat × Nat × (Nat → Nat → Int32)
abbrev dB : Type := (Nat → Nat → Int32) × (List Nat) × (List Nat) × Nat × Int32 × Nat × Nat × Nat × (List (Nat × Int32 × Int32))
def dB.st (B : dB) (i q : Nat) (v : Int32) : dB := (fun j k => if j = i ∧ k = q then v else B.1 j k, B.2.1, B.2.2.1, B.2.2.2.1, B.2.2.2.2.1, B.2.2.2.2.2.1, B.2.2.2.2.2.2.1, B.2.2.2.2.2.2.2.1, B.2.2.2.2.2.2.2.2)
/-- a plan as it must be -/
abbrev dWP (P : dP) : Prop := (P.1 ≤ 12) ∧ (P.2.1 ≤ 20) ∧ (P.2.2.1 ≤ 24)
theorem dWP.n {P : dP} (h0 : dWP P) : P.1 ≤ 12 := h0.1
theorem dWP.m {P : dP} (h0 : dWP P) : P.2.1 ≤ 20 := h0.2.1
theorem dWP.st {P : dP} (h0 : dWP P) : P.2.2.1 ≤ 24 := h0.2.2
/-- a log's line in one number -/
def dpk (e : Nat × Int32 × Int32) : Int32 := ((dn e.1 <<< (7 &&& 31)) ||| ((e.2.1 - (-2)) <<< (3 &&& 31))) ||| e.2.2
/-- the class' plan p -/
abbrev dCP (σ : pxS) (p : Nat) (P : dP) : Prop := (σ (1, p, 0) 0 = dn P.1) ∧ (σ (1, p, 0) 1 = dn P.2.1) ∧ (σ (1, p, 0) 2 = dn P.2.2.1) ∧ (∀ a, a < 11 → ∀ i, i < P.1 → σ (8, p, a) i = P.2.2.2 a i) ∧ (∀ a, 11 ≤ a → a < 14 → ∀ i, i < P.2.2.1 → σ (8, p, a) i = P.2.2.2 a i) ∧ (∀ i, i < 8 → σ (8, p, 14) i = P.2.2.2 14 i)
theorem dCP.n {σ : pxS} {p : Nat} {P : dP} (h0 : dCP σ p P) : σ (1, p, 0) 0 = dn P.1 := h0.1
theorem dCP.m {σ : pxS} {p : Nat} {P : dP} (h0 : dCP σ p P) : σ (1, p, 0) 1 = dn P.2.1 := h0.2.1
theorem dCP.st {σ : pxS} {p : Nat} {P : dP} (h0 : dCP σ p P) : σ (1, p, 0) 2 = dn P.2.2.1 := h0.2.2.1
theorem dCP.a {σ : pxS} {p : Nat} {P : dP} (h0 : dCP σ p P) : ∀ a, a < 11 → ∀ i, i < P.1 → σ (8, p, a) i = P.2.2.2 a i := h0.2.2.2.1
theorem dCP.s {σ : pxS} {p : Nat} {P : dP} (h0 : dCP σ p P) : ∀ a, 11 ≤ a → a < 14 → ∀ i, i < P.2.2.1 → σ (8, p, a) i = P.2.2.2 a i := h0.2.2.2.2.1
theorem dCP.e {σ : pxS} {p : Nat} {P : dP} (h0 : dCP σ p P) : ∀ i, i < 8 → σ (8, p, 14) i = P.2.2.2 14 i := h0.2.2.2.2.2
/-- the class' board k -/
abbrev dC (σ : pxS) (k p : Nat) (P : dP) (B : dB) : Prop := (σ (2, k, 0) 4 = dn p) ∧ (∀ i, i < P.1 → ∀ q, q < 13 → σ (3, k, i) q = B.1 i q) ∧ (dQ σ k 0 B.2.1) ∧ (dQ σ k 1 B.2.2.1) ∧ (σ (2, k, 0) 5 = dn B.2.2.2.1) ∧ (σ (2, k, 0) 6 = B.2.2.2.2.1) ∧ (σ (2, k, 0) 7 = dn B.2.2.2.2.2.1) ∧ (σ (2, k, 0) 8 = dn B.2.2.2.2.2.2.1) ∧ (σ (2, k, 0) 9 = dn B.2.2.2.2.2.2.2.1) ∧ (σ (2, k, 0) 10 = dn B.2.2.2.2.2.2.2.2.length) ∧ (∀ t (h : t < B.2.2.2.2.2.2.2.2.length), t < 40 → σ (11, k, 0) ((B.2.2.2.2.2.2.2.2.length - 1 - t) % 40) = dpk B.2.2.2.2.2.2.2.2[t]) ∧ (dCP σ p P)
theorem dC.hp {σ : pxS} {k p : Nat} {P : dP} {B : dB} (h0 : dC σ k p P B) : σ (2, k, 0) 4 = dn p := h0.1
theorem dC.f {σ : pxS} {k p : Nat} {P : dP} {B : dB} (h0 : dC σ k p P B) : ∀ i, i < P.1 → ∀ q, q < 13 → σ (3, k, i) q = B.1 i q := h0.2.1
theorem dC.w {σ : pxS} {k p : Nat} {P : dP} {B : dB} (h0 : dC σ k p P B) : dQ σ k 0 B.2.1 := h0.2.2.1
theorem dC.r {σ : pxS} {k p : Nat} {P : dP} {B : dB} (h0 : dC σ k p P B) : dQ σ k 1 B.2.2.1 := h0.2.2.2.1
theorem dC.tick {σ : pxS} {k p : Nat} {P : dP} {B : dB} (h0 : dC σ k p P B) : σ (2, k, 0) 5 = dn B.2.2.2.1 := h0.2.2.2.2.1
theorem dC.total {σ : pxS} {k p : Nat} {P : dP} {B : dB} (h0 : dC σ k p P B) : σ (2, k, 0) 6 = B.2.2.2.2.1 := h0.2.2.2.2.2.1
theorem dC.mode {σ : pxS} {k p : Nat} {P : dP} {B : dB} (h0 : dC σ k p P B) : σ (2, k, 0) 7 = dn B.2.2.2.2.2.1 := h0.2.2.2.2.2.2.1
theorem dC.step {σ : pxS} {k p : Nat} {P : dP} {B : dB} (h0 : dC σ k p P B) : σ (2, k, 0) 8 = dn B.2.2.2.2.2.2.1 := h0.2.2.2.2.2.2.2.1
theorem dC.stay {σ : pxS} {k p : Nat} {P : dP} {B : dB} (h0 : dC σ k p P B) : σ (2, k, 0) 9 = dn B.2.2.2.2.2.2.2.1 := h0.2.2.2.2.2.2.2.2.1
theorem dC.ll {σ : pxS} {k p : Nat} {P : dP} {B : dB} (h0 : dC σ k p P B) : σ (2, k, 0) 10 = dn B.2.2.2.2.2.2.2.2.length := h0.2.2.2.2.2.2.2.2.2.1
theorem dC.li {σ : pxS} {k p : Nat} {P : dP} {B : dB} (h0 : dC σ k p P B) : ∀ t (h : t < B.2.2.2.2.2.2.2.2.length), t < 40 → σ (11, k, 0) ((B.2.2.2.2.2.2.2.2.length - 1 - t) % 40) = dpk B.2.2.2.2.2.2.2.2[t] := h0.2.2.2.2.2.2.2.2.2.2.1
theorem dC.P {σ : pxS} {k p : Nat} {P : dP} {B : dB} (h0 : dC σ k p P B) : dCP σ p P := h0.2.2.2.2.2.2.2.2.2.2.2
/-- a cell of board k -/
def dbk (k : Nat) (j : pxI) : Prop := j.2.1 = k ∧ (j.1 = 2 ∨ j.1 = 3 ∨ j.1 = 4 ∨ j.1 = 10 ∨ j.1 = 11)
def dF (k : Nat) (σ σ' : pxS) : Prop := ∀ j, ¬ dbk k j → σ' j = σ j
theorem dF_refl (k : Nat) (σ : pxS) : dF k σ σ := fun _ _ => rfl
theorem dF_trans {k : Nat} {σ σ' σ'' : pxS} (h : dF k σ σ') (h' : dF k σ' σ'') : dF k σ σ'' := fun j hj => (h' j hj).trans (h j hj)
theorem dF_up {k : Nat} {σ : pxS} {i : pxI} {q : Nat} {v : Int32} (h : dbk k i) : dF k σ (px_up σ i q v) := fun j hj => by
  have : j ≠ i := fun e => hj (e ▸ h)
  funext t
  simp [px_up, this]
theorem dCP_F {k : Nat} {σ σ' : pxS} {p : Nat} {P : dP} (hF : dF k σ σ') (h : dCP σ p P) : dCP σ' p P := by
  have h1 : σ' (1, p, 0) = σ (1, p, 0) := hF _ (by simp [dbk])
  have h8 : ∀ a, σ' (8, p, a) = σ (8, p, a) := fun a => hF _ (by simp [dbk])
  exact ⟨by rw [h1]; exact h.n, by rw [h1]; exact h.m, by rw [h1]; exact h.st, fun a ha i hi => by rw [h8]; exact h.a a ha i hi, fun a h1 h2 i hi => by rw [h8]; exact h.s a h1 h2 i hi, fun i hi => by rw [h8]; exact h.e i hi⟩
theorem dQ_c {σ σ' : pxS} {k w : Nat} {l : List Nat} (h4 : σ' (4, k, w) = σ (4, k, w)) (h10 : σ' (10, k, w) = σ (10, k, w)) (h : dQ σ k w l) : dQ σ' k w l :=
  ⟨by rw [h4]; exact h.s, fun t ht => by rw [h10]; exact h.i t ht, fun i hi => by rw [h4]; exact h.b i hi⟩
/-- 'o' takes board k to B, and nothing else -/
def dT (σ : pxS) (k p : Nat) (P : dP) (o : Option pxS) (B : dB) : Prop := dw o (fun σ' => dC σ' k p P B ∧ dF k σ σ')
section DT
variable {σ : pxS} {k p : Nat} {P : dP} {B B1 B2 : dB}
theorem dT_some (h : dC σ k p P B) : dT σ k p P (some σ) B := dw_some.mpr ⟨h, dF_refl k σ⟩
theorem dT_b {o : Option pxS} {f : pxS → Option pxS} (h : dT σ k p P o B1) (hf : ∀ σ1, dC σ1 k p P B1 → dT σ1 k p P (f σ1) B2) : dT σ k p P (px_b1 o f) B2 :=
  dw_b1.mpr (dw_mono h fun σ1 h1 => dw_mono (hf σ1 h1.1) fun σ2 h2 => ⟨h2.1, dF_trans h1.2 h2.2⟩)
theorem dT_l {σ' : pxS} {f : pxS → Option pxS} (hF : dF k σ σ') (h : dC σ' k p P B1) (hf : ∀ σ1, dC σ1 k p P B1 → dT σ1 k p P (f σ1) B2) : dT σ k p P (px_l σ' f) B2 :=
  dw_mono (hf σ' h) fun σ2 h2 => ⟨h2.1, dF_trans hF h2.2⟩
theorem dT_ite {c : Prop} {_ : Decidable c} {X Y : Option pxS} (h1 : c → dT σ k p P X B) (h2 : ¬ c → dT σ k p P Y B) : dT σ k p P (if c then X else Y) B := dw_ite h1 h2
theorem dT_gd {j : Int32} {N : Nat} {A : Option pxS} (h0 : ¬ j < 0 ∧ j.toNatClampNeg < N) (h : dT σ k p P A B) : dT σ k p P (px_gd j N A) B := dw_gd.mpr ⟨h0, h⟩
theorem dT_v {o : Option Int32} {f : Int32 → Option pxS} {r : Int32} (e : o = some r) (h : dT σ k p P (f r) B) : dT σ k p P (px_b1 o f) B := by
  rw [e]; exact h
theorem dT_gi {i : Nat} {A : Option pxS} (hi : i < P.1) (hP : dWP P) (h : dT σ k p P A B) : dT σ k p P (px_gd (dn i) 12 A) B := by
  have := hP.n
  exact dT_gd ⟨dn_nn (by omega), by rw [dn_nat (by omega)]; omega⟩ h
theorem dC_st {i q : Nat} {v : Int32} (h : dC σ k p P B) : dC (px_up σ (3, k, i) q v) k p P (B.st i q v) := by
  have e : ∀ j : pxI, j.1 ≠ 3 → px_up σ (3, k, i) q v j = σ j := fun j hj => by
    have : j ≠ (3, k, i) := fun e => hj (by rw [e])
    funext t
    simp [px_up, this]
  refine ⟨by rw [e _ (by simp)]; exact h.hp, fun j hj t ht => ?_, dQ_c (e _ (by simp)) (e _ (by simp)) h.w, dQ_c (e _ (by simp)) (e _ (by simp)) h.r, by rw [e _ (by simp)]; exact h.tick, by rw [e _ (by simp)]; exact h.total, by rw [e _ (by simp)]; exact h.mode, by rw [e _ (by simp)]; exact h.step, by rw [e _ (by simp)]; exact h.stay, by rw [e _ (by simp)]; exact h.ll, fun t ht h4 => by rw [e _ (by simp)]; exact h.li t ht h4, dCP_F (dF_up (k := k) (by simp [dbk])) h.P⟩
  simp only [px_up, dB.st]
  by_cases c : j = i ∧ t = q
  · simp [c.1, c.2]
  · have : ¬ (((3, k, j) : pxI) = (3, k, i) ∧ t = q) := fun z => c ⟨by have := z.1; simp at this; exact this, z.2⟩
    rw [if_neg this, if_neg c]
    exact h.f j hj t ht
theorem dT_st {i q : Nat} {v : Int32} {f : pxS → Option pxS} (h : dC σ k p P B) (hf : ∀ σ1, dC σ1 k p P (B.st i q v) → dT σ1 k p P (f σ1) B2) : dT σ k p P (px_l (px_up σ (3, k, i) q v) f) B2 :=
  dT_l (dF_up (by simp [dbk])) (dC_st h) hf
/-- a field of the board: by what it is -/
theorem dC_bd {q : Nat} {v : Int32} (h : dC σ k p P B) (hq : 5 ≤ q ∧ q < 10) (hw : B1.1 = B.1 ∧ B1.2.1 = B.2.1 ∧ B1.2.2.1 = B.2.2.1 ∧ B1.2.2.2.2.2.2.2.2 = B.2.2.2.2.2.2.2.2) (h5 : (if q = 5 then v else dn B.2.2.2.1) = dn B1.2.2.2.1) (h6 : (if q = 6 then v else B.2.2.2.2.1) = B1.2.2.2.2.1) (h7 : (if q = 7 then v else dn B.2.2.2.2.2.1) = dn B1.2.2.2.2.2.1) (h8 : (if q = 8 then v else dn B.2.2.2.2.2.2.1) = dn B1.2.2.2.2.2.2.1) (h9 : (if q = 9 then v else dn B.2.2.2.2.2.2.2.1) = dn B1.2.2.2.2.2.2.2.1) : dC (px_up σ (2, k, 0) q v) k p P B1 := by
  have e : ∀ j : pxI, j.1 ≠ 2 → px_up σ (2, k, 0) q v j = σ j := fun j hj => by
    have : j ≠ (2, k, 0) := fun e => hj (by rw [e])
    funext t
    simp [px_up, this]
  have e2 : ∀ t, px_up σ (2, k, 0) q v (2, k, 0) t = if t = q then v else σ (2, k, 0) t := fun t => by simp [px_up]
  obtain ⟨w1, w2, w3, w4⟩ := hw
  refine ⟨by rw [e2, if_neg (by omega)]; exact h.hp, fun j hj t ht => by rw [e _ (by simp), w1]; exact h.f j hj t ht, by rw [w2]; exact dQ_c (e _ (by simp)) (e _ (by simp)) h.w, by rw [w3]; exact dQ_c (e _ (by simp)) (e _ (by simp)) h.r, ?_, ?_, ?_, ?_, ?_, by rw [e2, if_neg (by omega), w4]; exact h.ll, fun t ht h4 => ?_, dCP_F (dF_up (k := k) (by simp [dbk])) h.P⟩
  · rw [e2, h.tick, ← h5]; simp [eq_comm]
  · rw [e2, h.total, ← h6]; simp [eq_comm]
  · rw [e2, h.mode, ← h7]; simp [eq_comm]
  · rw [e2, h.step, ← h8]; simp [eq_comm]
  · rw [e2, h.stay, ← h9]; simp [eq_comm]
  · rw [e _ (by simp)]
    simp only [w4] at ht ⊢
    exact h.li t ht h4
/-! the log -/
def dB.wr (B : dB) (r w : Int32) : dB := (B.1, B.2.1, B.2.2.1, B.2.2.2.1, B.2.2.2.2.1, B.2.2.2.2.2.1, B.2.2.2.2.2.2.1, B.2.2.2.2.2.2.2.1, (B.2.2.2.1, r, w) :: B.2.2.2.2.2.2.2.2)
theorem dT_wr {r w : Int32} (h : dC σ k p P B) (hl : B.2.2.2.2.2.2.2.2.length < 1000000) : dT σ k p P (F_Bo_write σ k r w) (B.wr r w) := by
  unfold F_Bo_write
  rw [h.ll, h.tick]
  refine dT_v (floorMod40 (by omega)) (dT_gd ⟨dn_nn (by omega), by rw [dn_nat (by omega)]; omega⟩ ?_)
  refine dw_mono (dw_l.mpr (dw_l.mpr (dw_some.mpr rfl))) ?_
  rintro _ rfl
  rw [dn_nat (by omega)]
  refine ⟨?_, dF_trans (dF_up (by simp [dbk])) (dF_up (by simp [dbk]))⟩
  have e : ∀ (σ1 : pxS) v, ∀ j : pxI, j.1 ≠ 2 → px_up σ1 (2, k, 0) 10 v j = σ1 j := fun σ1 v j hj => by
    have : j ≠ (2, k, 0) := fun e => hj (by rw [e])
    funext t
    simp [px_up, this]
  have e' : ∀ (σ1 : pxS) q v, ∀ j : pxI, j.1 ≠ 11 → px_up σ1 (11, k, 0) q v j = σ1 j := fun σ1 q v j hj => by
    have : j ≠ (11, k, 0) := fun e => hj (by rw [e])
    funext t
    simp [px_up, this]
  have e2 : ∀ (σ1 : pxS) v t, px_up σ1 (2, k, 0) 10 v (2, k, 0) t = if t = 10 then v else σ1 (2, k, 0) t := fun σ1 v t => by simp [px_up]
  refine ⟨by rw [e2, if_neg (by omega), e' _ _ _ _ (by simp)]; exact h.hp, fun j hj t ht => by rw [e _ _ _ (by simp), e' _ _ _ _ (by simp)]; exact h.f j hj t ht, dQ_c (by rw [e _ _ _ (by simp), e' _ _ _ _ (by simp)]) (by rw [e _ _ _ (by simp), e' _ _ _ _ (by simp)]) h.w, dQ_c (by rw [e _ _ _ (by simp), e' _ _ _ _ (by simp)]) (by rw [e _ _ _ (by simp), e' _ _ _ _ (by simp)]) h.r, by rw [e2, if_neg (by omega), e' _ _ _ _ (by simp)]; exact h.tick, by rw [e2, if_neg (by omega), e' _ _ _ _ (by simp)]; exact h.total, by rw [e2, if_neg (by omega), e' _ _ _ _ (by simp)]; exact h.mode, by rw [e2, if_neg (by omega), e' _ _ _ _ (by simp)]; exact h.step, by rw [e2, if_neg (by omega), e' _ _ _ _ (by simp)]; exact h.stay, ?_, fun t ht h4 => ?_, dCP_F (dF_trans (dF_up (k := k) (by simp [dbk])) (dF_up (by simp [dbk]))) h.P⟩
  · rw [e2, if_pos rfl, e' _ _ _ _ (by simp), h.ll]
    exact dn_suc _
  · rw [e _ _ _ (by simp)]
    simp only [dB.wr, List.length_cons] at ht ⊢
    cases t with
    | zero => simp only [px_up, Nat.add_sub_cancel, Nat.sub_zero, and_self, if_true, List.getElem_cons_zero, dpk]
    | succ t =>
      have hne : ¬ (B.2.2.2.2.2.2.2.2.length + 1 - 1 - (t + 1)) % 40 = B.2.2.2.2.2.2.2.2.length % 40 := by omega
      simp only [px_up, hne, and_false, if_false, List.getElem_cons_succ]
      rw [← h.li t (by omega) (by omega)]
      congr 1
      omega
end DT
end
section
abbrev dB.on (B : dB) (i : Nat) : Prop := B.1 i 2 = 2 ∨ B.1 i 2 = 3
/-- rises or is up, isn't in the row, is of the set -/
abbrev dB.live (B : dB) (set : Int32) (i : Nat) : Prop := db set i = true ∧ i ∉ B.2.2.1 ∧ B.on i
/-- the latest of the first t rails -/
def dLat (B : dB) (set : Int32) : Nat → Option Nat
  | 0 => none
  | i + 1 => if B.live set i then (match dLat B set i with
    | none => some i
    | some j => if B.1 i 8 < B.1 j 8 then some j else some i) else dLat B set i
def dOp (o : Option Nat) : Int32 := match o with
  | none => -1
  | some i => dn i
theorem dLat_lt {B : dB} {set : Int32} : ∀ {t j : Nat}, dLat B set t = some j → j < t ∧ B.live set j := by
  intro t
  induction t with
  | zero => intro j h; cases h
  | succ i ih =>
    intro j h
    unfold dLat at h
    by_cases c : B.live set i
    · rw [if_pos c] at h
      cases e : dLat B set i with
      | none => rw [e] at h; cases h; exact ⟨by omega, c⟩
      | some j' =>
        rw [e] at h
        dsimp only at h
        by_cases c2 : B.1 i 8 < B.1 j' 8
        · rw [if_pos c2] at h; cases h; exact ⟨by have := (ih e).1; omega, (ih e).2⟩
        · rw [if_neg c2] at h; cases h; exact ⟨by omega, c⟩
    · rw [if_neg c] at h
      exact ⟨by have := (ih h).1; omega, (ih h).2⟩
theorem dLat_none {B : dB} {set : Int32} : ∀ {t : Nat}, dLat B set t = none → ∀ i, i < t → ¬ B.live set i := by
  intro t
  induction t with
  | zero => intro h i hi; omega
  | succ m ih =>
    intro h i hi
    unfold dLat at h
    by_cases c : B.live set m
    · rw [if_pos c] at h
      cases e : dLat B set m with
      | none => rw [e] at h; cases h
      | some j' =>
        rw [e] at h
        dsimp only at h
        by_cases c2 : B.1 m 8 < B.1 j' 8
        · rw [if_pos c2] at h; cases h
        · rw [if_neg c2] at h; cases h
    · rw [if_neg c] at h
      by_cases e : i = m
      · rw [e]; exact c
      · exact ih h i (by omega)
/-- a board as it must be -/
abbrev dWB (P : dP) (B : dB) : Prop := (dL P.1 B.2.1) ∧ (dL P.1 B.2.2.1) ∧ (∀ i, i < P.1 → (B.1 i 2 = 1 ↔ i ∈ B.2.1)) ∧ (∀ i ∈ B.2.2.1, B.on i)
theorem dWB.w {P : dP} {B : dB} (h0 : dWB P B) : dL P.1 B.2.1 := h0.1
theorem dWB.r {P : dP} {B : dB} (h0 : dWB P B) : dL P.1 B.2.2.1 := h0.2.1
theorem dWB.ws {P : dP} {B : dB} (h0 : dWB P B) : ∀ i, i < P.1 → (B.1 i 2 = 1 ↔ i ∈ B.2.1) := h0.2.2.1
theorem dWB.ro {P : dP} {B : dB} (h0 : dWB P B) : ∀ i ∈ B.2.2.1, B.on i := h0.2.2.2
section D4
variable {σ : pxS} {k p : Nat} {P : dP} {B B1 B2 : dB}
/-- the plan's number of rails, read by way of the board -/
theorem dC_n (h : dC σ k p P B) (hp : p < 2) : σ (1, (σ (2, k, 0) 4).toNatClampNeg, 0) 0 = dn P.1 := by
  rw [h.hp, dn_nat (by omega)]; exact h.P.n
theorem dC_lat {set : Int32} (h : dC σ k p P B) (hp : p < 2) (hP : dWP P) : F_Bo_latestToGo σ k set = some (dOp (dLat B set P.1)) := by
  have hn := hP.n
  suffices hh : dw (F_Bo_latestToGo σ k set) (fun r => r = dOp (dLat B set P.1)) by
    obtain ⟨a, e, rfl⟩ := hh; exact e
  unfold F_Bo_latestToGo
  rw [dw_b1]
  refine dw_up P.1 (by unfold px_N; omega) (fun t s => s.1 = dOp (dLat B set t) ∧ s.2 = dn t) (fun t s ht hI => ?_) (fun s hI => ?_) (Nat.zero_le _) ⟨rfl, rfl⟩
  · obtain ⟨v3, v4⟩ := s
    obtain ⟨rfl, rfl⟩ := hI
    show dw (Bo_latestToGo_n17 σ k _ _ _) _
    unfold Bo_latestToGo_n17
    rw [dC_n h hp, if_neg (by rw [dn_le (by omega) (by omega)]; omega)]
    simp only [dw_gd, dn_nat (show t < 2147483648 by omega), h.f t ht 2 (by omega), h.f t ht 8 (by omega)]
    refine ⟨⟨dn_nn (by omega), by omega⟩, ?_⟩
    have hb : db (set &&& (σ (4, k, 1) 2 ^^^ (-1))) t = true ↔ db set t = true ∧ t ∉ B.2.2.1 := by
      rw [db_and, db_not (by omega), h.r.b t (by omega)]; simp
    have hlive : db (set &&& (σ (4, k, 1) 2 ^^^ (-1))) t = true → B.on t → B.live set t := fun a b => ⟨(hb.mp a).1, (hb.mp a).2, b⟩
    have key : B.live set t → dw (Bo_latestToGo_n62 σ k (set &&& (σ (4, k, 1) 2 ^^^ (-1))) (dOp (dLat B set t)) (dn t)) (dR (fun s' => s'.1 = dOp (dLat B set (t + 1)) ∧ s'.2 = dn (t + 1)) (fun e => dw (some e) fun r => r = dOp (dLat B set P.1))) := fun c => by
      unfold Bo_latestToGo_n62 Bo_latestToGo_n100 Bo_latestToGo_n103
      have e1 : dLat B set (t + 1) = (match dLat B set t with
        | none => some t
        | some j => if B.1 t 8 < B.1 j 8 then some j else some t) := by
        conv => lhs; unfold dLat
        rw [if_pos c]
      cases e : dLat B set t with
      | none =>
        rw [e] at e1
        rw [e1, if_pos (by decide)]
        simp only [dw_some, dR_l, dR_r]
        exact ⟨rfl, dn_suc t⟩
      | some j =>
        rw [e] at e1
        have hj := (dLat_lt e).1
        rw [show dOp (some j) = dn j from rfl, if_neg (dn_nn (by omega))]
        simp only [dw_gd, dn_nat (show t < 2147483648 by omega), dn_nat (show j < 2147483648 by omega), h.f t ht 8 (by omega), h.f j (by omega) 8 (by omega)]
        refine ⟨⟨dn_nn (by omega), by omega⟩, ⟨dn_nn (by omega), by omega⟩, dw_ite (fun c2 => ?_) (fun c2 => ?_)⟩
        · dsimp only at e1
          rw [if_pos c2] at e1
          rw [e1]
          simp only [dw_some, dR_l, dR_r]
          exact ⟨rfl, dn_suc t⟩
        · dsimp only at e1
          rw [if_neg c2] at e1
          rw [e1]
          simp only [dw_some, dR_l, dR_r]
          exact ⟨rfl, dn_suc t⟩
    have keyn : ¬ B.live set t → dw (Bo_latestToGo_n66 σ k (set &&& (σ (4, k, 1) 2 ^^^ (-1))) (dOp (dLat B set t)) (dn t)) (dR (fun s' => s'.1 = dOp (dLat B set (t + 1)) ∧ s'.2 = dn (t + 1)) (fun e => dw (some e) fun r => r = dOp (dLat B set P.1))) := fun c => by
      unfold Bo_latestToGo_n66 Bo_latestToGo_n103
      have e1 : dLat B set (t + 1) = dLat B set t := by
        conv => lhs; unfold dLat
        rw [if_neg c]
      rw [e1]
      simp only [dw_some, dR_l, dR_r]
      exact ⟨trivial, dn_suc t⟩
    refine dw_ite (fun c => ?_) (fun c => ?_)
    · rw [db_sh0 (by omega)] at c
      exact keyn fun l => absurd (hb.mpr ⟨l.1, l.2.1⟩) (by rw [c]; simp)
    · rw [db_sh0 (by omega)] at c
      have c : db (set &&& (σ (4, k, 1) 2 ^^^ (-1))) t = true := by simpa using c
      refine dw_ite (fun c2 => key (hlive c (Or.inl c2))) (fun c2 => dw_ite (fun c3 => key (hlive c (Or.inr c3))) (fun c3 => keyn fun l => ?_))
      rcases l.2.2 with z | z
      · exact c2 z
      · exact c3 z
  · obtain ⟨v3, v4⟩ := s
    obtain ⟨rfl, rfl⟩ := hI
    show dw (Bo_latestToGo_n17 σ k _ _ _) _
    unfold Bo_latestToGo_n17
    rw [dC_n h hp, if_pos (by rw [dn_le (by omega) (by omega)]; omega)]
    simp only [dw_some, dR_l, dR_r]
end D4
end
section
/-! unwinding -/
def dB.out (B : dB) (i : Nat) : dB := ((B.st i 2 0).1, dDrop B.2.1 i, (B.st i 2 0).2.2.1, (B.st i 2 0).2.2.2.1, (B.st i 2 0).2.2.2.2.1, (B.st i 2 0).2.2.2.2.2.1, (B.st i 2 0).2.2.2.2.2.2.1, (B.st i 2 0).2.2.2.2.2.2.2.1, (B.st i 2 0).2.2.2.2.2.2.2.2)
def dB.inr (B : dB) (i : Nat) : dB := ((B.st i 12 0).1, (B.st i 12 0).2.1, B.2.2.1 ++ [i], (B.st i 12 0).2.2.2.1, (B.st i 12 0).2.2.2.2.1, (B.st i 12 0).2.2.2.2.2.1, (B.st i 12 0).2.2.2.2.2.2.1, (B.st i 12 0).2.2.2.2.2.2.2.1, (B.st i 12 0).2.2.2.2.2.2.2.2)
def dUW (set : Int32) : Nat → dB → dB
  | 0, B => B
  | t + 1, B => if db set t = true ∧ (dUW set t B).1 t 2 = 1 then (dUW set t B).out t else dUW set t B
def dRow (n : Nat) (set : Int32) : Nat → dB → dB
  | 0, B => B
  | k + 1, B => match dLat B set n with
    | none => B
    | some i => dRow n set k (B.inr i)
def dUn (n : Nat) (set : Int32) (B : dB) : dB := dRow n set 12 (dUW set n B)
theorem dB.st_ne {B : dB} {i j q r : Nat} {v : Int32} (h : j ≠ i ∨ r ≠ q) : (B.st i q v).1 j r = B.1 j r := by
  simp only [dB.st]
  rw [if_neg (by rcases h with h | h <;> simp [h])]
theorem dB.st_eq {B : dB} {i q : Nat} {v : Int32} : (B.st i q v).1 i q = v := by simp [dB.st]
theorem dB.out_ne {B : dB} {i j q : Nat} (h : j ≠ i ∨ q ≠ 2) : (B.out i).1 j q = B.1 j q := dB.st_ne h
theorem dWB_out {P : dP} {B : dB} {i : Nat} (h : dWB P B) (h1 : B.1 i 2 = 1) : dWB P (B.out i) := by
  refine ⟨dL_drop h.w, h.r, fun j hj => ?_, fun j hj => ?_⟩
  · by_cases e : j = i
    · subst e
      have : (B.out j).1 j 2 = 0 := dB.st_eq
      rw [this]
      simp [dB.out, dDrop]
    · rw [dB.out_ne (Or.inl e), h.ws j hj]
      simp [dB.out, dDrop, e]
  · have hj : j ∈ B.2.2.1 := hj
    have ho := h.ro j hj
    have e : j ≠ i := fun e => by
      subst e
      rcases ho with z | z <;> rw [z] at h1 <;> exact absurd h1 (by decide)
    rcases ho with z | z
    · exact Or.inl ((dB.out_ne (Or.inl e)).trans z)
    · exact Or.inr ((dB.out_ne (Or.inl e)).trans z)
theorem dWB_uw {P : dP} {B : dB} {set : Int32} (h : dWB P B) : ∀ t, dWB P (dUW set t B) := by
  intro t
  induction t with
  | zero => exact h
  | succ t ih =>
    unfold dUW
    by_cases c : db set t = true ∧ (dUW set t B).1 t 2 = 1
    · rw [if_pos c]; exact dWB_out ih c.2
    · rw [if_neg c]; exact ih
theorem dB.inr_ne {B : dB} {i j q : Nat} (h : j ≠ i ∨ q ≠ 12) : (B.inr i).1 j q = B.1 j q := dB.st_ne h
theorem dWB_inr {P : dP} {B : dB} {i : Nat} (h : dWB P B) (hi : i < P.1) (hr : i ∉ B.2.2.1) (ho : B.on i) : dWB P (B.inr i) := by
  refine ⟨h.w, dL_add h.r hi hr, fun j hj => ?_, fun j hj => ?_⟩
  · rw [dB.inr_ne (Or.inr (by omega))]; exact h.ws j hj
  · have e : (B.inr i).on j ↔ B.on j := by
      unfold dB.on
      rw [dB.inr_ne (Or.inr (by omega))]
    rw [e]
    have hj : j ∈ B.2.2.1 ++ [i] := hj
    rcases List.mem_append.mp hj with hj | hj
    · exact h.ro j hj
    · simp at hj; rw [hj]; exact ho
theorem dWB_row {P : dP} {set : Int32} : ∀ {k : Nat} {B : dB}, dWB P B → dWB P (dRow P.1 set k B) := by
  intro k
  induction k with
  | zero => intro B h; exact h
  | succ k ih =>
    intro B h
    unfold dRow
    cases e : dLat B set P.1 with
    | none => exact h
    | some i =>
      obtain ⟨h1, h2⟩ := dLat_lt e
      exact ih (dWB_inr h h1 h2.2.1 h2.2.2)
theorem dWB_un {P : dP} {B : dB} {set : Int32} (h : dWB P B) : dWB P (dUn P.1 set B) := dWB_row (dWB_uw h P.1)
section D5
variable {σ : pxS} {k p : Nat} {P : dP} {B B1 B2 : dB}
/-- a queue's change alone -/
theorem dC_qw {σ' : pxS} {l : List Nat} (h : dC σ k p P B) (hq : dQ σ' k 0 l) (hF : ∀ j, j ≠ (4, k, 0) → j ≠ (10, k, 0) → σ' j = σ j) : dC σ' k p P (B.1, l, B.2.2.1, B.2.2.2.1, B.2.2.2.2.1, B.2.2.2.2.2.1, B.2.2.2.2.2.2.1, B.2.2.2.2.2.2.2.1, B.2.2.2.2.2.2.2.2) ∧ dF k σ σ' := by
  have hF' : dF k σ σ' := fun j hj => hF j (fun e => hj (by rw [e]; simp [dbk])) (fun e => hj (by rw [e]; simp [dbk]))
  have e : ∀ j : pxI, j.1 ≠ 4 → j.1 ≠ 10 → σ' j = σ j := fun j h4 h10 => hF j (fun e => h4 (by rw [e])) (fun e => h10 (by rw [e]))
  have e2 : σ' (2, k, 0) = σ (2, k, 0) := e _ (by simp) (by simp)
  exact ⟨⟨by rw [e2]; exact h.hp, fun j hj t ht => by rw [e _ (by simp) (by simp)]; exact h.f j hj t ht, hq, dQ_c (hF _ (by simp) (by simp)) (hF _ (by simp) (by simp)) h.r, by rw [e2]; exact h.tick, by rw [e2]; exact h.total, by rw [e2]; exact h.mode, by rw [e2]; exact h.step, by rw [e2]; exact h.stay, by rw [e2]; exact h.ll, fun t ht h4 => by rw [e _ (by simp) (by simp)]; exact h.li t ht h4, dCP_F hF' h.P⟩, hF'⟩
theorem dC_qr {σ' : pxS} {l : List Nat} (h : dC σ k p P B) (hq : dQ σ' k 1 l) (hF : ∀ j, j ≠ (4, k, 1) → j ≠ (10, k, 1) → σ' j = σ j) : dC σ' k p P (B.1, B.2.1, l, B.2.2.2.1, B.2.2.2.2.1, B.2.2.2.2.2.1, B.2.2.2.2.2.2.1, B.2.2.2.2.2.2.2.1, B.2.2.2.2.2.2.2.2) ∧ dF k σ σ' := by
  have hF' : dF k σ σ' := fun j hj => hF j (fun e => hj (by rw [e]; simp [dbk])) (fun e => hj (by rw [e]; simp [dbk]))
  have e : ∀ j : pxI, j.1 ≠ 4 → j.1 ≠ 10 → σ' j = σ j := fun j h4 h10 => hF j (fun e => h4 (by rw [e])) (fun e => h10 (by rw [e]))
  have e2 : σ' (2, k, 0) = σ (2, k, 0) := e _ (by simp) (by simp)
  exact ⟨⟨by rw [e2]; exact h.hp, fun j hj t ht => by rw [e _ (by simp) (by simp)]; exact h.f j hj t ht, dQ_c (hF _ (by simp) (by simp)) (hF _ (by simp) (by simp)) h.w, hq, by rw [e2]; exact h.tick, by rw [e2]; exact h.total, by rw [e2]; exact h.mode, by rw [e2]; exact h.step, by rw [e2]; exact h.stay, by rw [e2]; exact h.ll, fun t ht h4 => by rw [e _ (by simp) (by simp)]; exact h.li t ht h4, dCP_F hF' h.P⟩, hF'⟩
theorem dT_wdrop {i : Nat} (h : dC σ k p P B) (hw : dL P.1 B.2.1) (hn : P.1 ≤ 12) (hi : i < P.1) : dT σ k p P (F_Qu_drop σ k 0 (dn i)) (B.1, dDrop B.2.1 i, B.2.2.1, B.2.2.2.1, B.2.2.2.2.1, B.2.2.2.2.2.1, B.2.2.2.2.2.2.1, B.2.2.2.2.2.2.2.1, B.2.2.2.2.2.2.2.2) :=
  dw_mono (dQ_drop h.w hw hn hi) fun σ' h' => dC_qw h h'.1 h'.2
theorem dT_rdrop {i : Nat} (h : dC σ k p P B) (hw : dL P.1 B.2.2.1) (hn : P.1 ≤ 12) (hi : i < P.1) : dT σ k p P (F_Qu_drop σ k 1 (dn i)) (B.1, B.2.1, dDrop B.2.2.1 i, B.2.2.2.1, B.2.2.2.2.1, B.2.2.2.2.2.1, B.2.2.2.2.2.2.1, B.2.2.2.2.2.2.2.1, B.2.2.2.2.2.2.2.2) :=
  dw_mono (dQ_drop h.r hw hn hi) fun σ' h' => dC_qr h h'.1 h'.2
theorem dT_wadd {i : Nat} (h : dC σ k p P B) (hw : dL P.1 B.2.1) (hn : P.1 ≤ 12) (hi : i < P.1) (hni : i ∉ B.2.1) : dT σ k p P (F_Qu_add σ k 0 (dn i)) (B.1, B.2.1 ++ [i], B.2.2.1, B.2.2.2.1, B.2.2.2.2.1, B.2.2.2.2.2.1, B.2.2.2.2.2.2.1, B.2.2.2.2.2.2.2.1, B.2.2.2.2.2.2.2.2) :=
  dw_mono (dQ_add h.w hw hn hi hni) fun σ' h' => dC_qw h h'.1 h'.2
theorem dT_radd {i : Nat} (h : dC σ k p P B) (hw : dL P.1 B.2.2.1) (hn : P.1 ≤ 12) (hi : i < P.1) (hni : i ∉ B.2.2.1) : dT σ k p P (F_Qu_add σ k 1 (dn i)) (B.1, B.2.1, B.2.2.1 ++ [i], B.2.2.2.1, B.2.2.2.2.1, B.2.2.2.2.2.1, B.2.2.2.2.2.2.1, B.2.2.2.2.2.2.2.1, B.2.2.2.2.2.2.2.2) :=
  dw_mono (dQ_add h.r hw hn hi hni) fun σ' h' => dC_qr h h'.1 h'.2
/-- a loop over the rails that takes a board on -/
theorem dT_for {f : Int32 × pxS → Option ((Int32 × pxS) ⊕ pxS)} (N : Nat) (hN : N < px_N) (S : Nat → dB) (h : dC σ k p P (S 0)) (hs : ∀ t τ, t < N → dC τ k p P (S t) → dw (f (dn t, τ)) (dR (fun s => s.1 = dn (t + 1) ∧ dC s.2 k p P (S (t + 1)) ∧ dF k τ s.2) (fun _ => False))) (hx : ∀ τ, dC τ k p P (S N) → f (dn N, τ) = some (.inr τ)) : dT σ k p P (px_it f px_N (0, σ)) (S N) := by
  refine dw_up N hN (fun t s => s.1 = dn t ∧ dC s.2 k p P (S t) ∧ dF k σ s.2) (fun t s ht hI => ?_) (fun s hI => ?_) (Nat.zero_le _) ⟨rfl, h, dF_refl k σ⟩
  · obtain ⟨v, τ⟩ := s
    obtain ⟨rfl, h1, h2⟩ := hI
    refine dw_mono (hs t τ ht h1) fun r hr => ?_
    cases r with
    | inl s => exact ⟨hr.1, hr.2.1, dF_trans h2 hr.2.2⟩
    | inr e => exact hr.elim
  · obtain ⟨v, τ⟩ := s
    obtain ⟨rfl, h1, h2⟩ := hI
    rw [hx τ h1]
    simp only [dw_some, dR_r]
    exact ⟨h1, h2⟩
/-- a round's end as a board's change -/
theorem dT_in {o : Option pxS} {t : Nat} (h : dT σ k p P o B) : dw (px_b1 o fun τ => (some (.inl (dn t + 1, τ)) : Option ((Int32 × pxS) ⊕ pxS))) (dR (fun s => s.1 = dn (t + 1) ∧ dC s.2 k p P B ∧ dF k σ s.2) (fun _ => False)) := by
  rw [dw_b1]
  refine dw_mono h fun τ hτ => ?_
  simp only [dw_some, dR_l]
  exact ⟨dn_suc t, hτ⟩
theorem dT_un {set : Int32} (h : dC σ k p P B) (hB : dWB P B) (hp : p < 2) (hP : dWP P) : dT σ k p P (F_Bo_unwind σ k set) (dUn P.1 set B) := by
  have hn := hP.n
  unfold F_Bo_unwind
  refine dT_b (B1 := dUW set P.1 B) ?_ fun τ hτ => ?_
  · refine dT_for P.1 (by unfold px_N; omega) (fun t => dUW set t B) h (fun t τ ht hτ => ?_) (fun τ hτ => ?_)
    · show dw (Bo_unwind_n2 τ k set (dn t)) _
      have hW := dWB_uw (set := set) hB t
      unfold Bo_unwind_n2 Bo_unwind_n52
      rw [dC_n hτ hp, if_neg (by rw [dn_le (by omega) (by omega)]; omega)]
      simp only [dn_nat (show t < 2147483648 by omega), hτ.f t ht 2 (by omega)]
      refine dw_ite (fun c => ?_) (fun c => dw_gd.mpr ⟨⟨dn_nn (by omega), by rw [dn_nat (by omega)]; omega⟩, dw_ite (fun c2 => ?_) (fun c2 => ?_)⟩)
      · rw [db_sh0 (by omega)] at c
        simp only [dw_some, dR_l]
        refine ⟨dn_suc t, ?_, dF_refl k τ⟩
        unfold dUW
        rw [if_neg (by rw [c]; simp)]
        exact hτ
      · rw [db_sh0 (by omega)] at c
        refine dw_gd.mpr ⟨⟨dn_nn (by omega), by rw [dn_nat (by omega)]; omega⟩, ?_⟩
        rw [dw_l]
        have e : dUW set (t + 1) B = (dUW set t B).out t := by
          conv => lhs; unfold dUW
          rw [if_pos ⟨by simpa using c, c2⟩]
        rw [e]
        refine dw_mono (dT_in (dT_wdrop (dC_st hτ) hW.w hn ht)) fun r hr => ?_
        cases r with
        | inl s => exact ⟨hr.1, hr.2.1, dF_trans (dF_up (by simp [dbk])) hr.2.2⟩
        | inr e => exact hr.elim
      · simp only [dw_some, dR_l]
        refine ⟨dn_suc t, ?_, dF_refl k τ⟩
        unfold dUW
        rw [if_neg (fun z => c2 z.2)]
        exact hτ
    · show Bo_unwind_n2 τ k set (dn P.1) = _
      unfold Bo_unwind_n2
      rw [dC_n hτ hp, if_pos (by rw [dn_le (by omega) (by omega)]; omega)]
  · refine dT_v (dC_lat hτ hp hP) ?_
    have hW := dWB_uw (set := set) hB P.1
    show dT τ k p P _ (dRow P.1 set 12 (dUW set P.1 B))
    generalize dUW set P.1 B = B0 at hτ hW
    refine dw_b1.mpr (dw_mono (P := fun τ' => dC τ' k p P (dRow P.1 set 12 B0) ∧ dF k τ τ') ?_ fun τ' h' => dw_some.mpr h')
    refine dw_up 12 (by unfold px_N; omega) (fun t s => ∃ B1, s.1 = dOp (dLat B1 set P.1) ∧ s.2.1 = dn t ∧ dC s.2.2 k p P B1 ∧ dF k τ s.2.2 ∧ dWB P B1 ∧ dRow P.1 set (12 - t) B1 = dRow P.1 set 12 B0) (fun t s ht hI => ?_) (fun s hI => ?_) (Nat.zero_le _) ⟨B0, rfl, rfl, hτ, dF_refl k τ, hW, rfl⟩
    · obtain ⟨v2, v3, ρ⟩ := s
      obtain ⟨B1, rfl, rfl, h1, h2, h3, h4⟩ := hI
      dsimp only at h1 h2
      show dw (Bo_unwind_n66 ρ k set _ _) _
      unfold Bo_unwind_n66
      rw [if_neg (by rw [show (12 : Int32) = dn 12 from rfl, dn_le (by omega) (by omega)]; omega)]
      rw [show 12 - t = (12 - (t + 1)) + 1 by omega, dRow] at h4
      cases e : dLat B1 set P.1 with
      | none =>
        rw [e] at h4
        dsimp only at h4
        rw [show dOp none = -1 from rfl]
        dsimp only
        rw [if_pos (by decide)]
        simp only [dw_some, dR_r]
        rw [← h4]
        exact ⟨h1, h2⟩
      | some i =>
        rw [e] at h4
        dsimp only at h4
        obtain ⟨l1, l2⟩ := dLat_lt e
        rw [show dOp (some i) = dn i from rfl, if_neg (dn_nn (by omega)), dw_b1]
        refine dw_mono (dT_radd h1 h3.r hn l1 l2.2.1) fun ρ1 g1 => ?_
        refine dw_gd.mpr ⟨⟨dn_nn (by omega), by rw [dn_nat (by omega)]; omega⟩, ?_⟩
        rw [dw_l, dn_nat (by omega)]
        have g2 : dC (px_up ρ1 (3, k, i) 12 0) k p P (B1.inr i) := dC_st g1.1
        rw [dC_lat g2 hp hP]
        simp only [dw_b1, dw_some, dR_l]
        exact ⟨B1.inr i, rfl, dn_suc t, g2, dF_trans h2 (dF_trans g1.2 (dF_up (by simp [dbk]))), dWB_inr h3 l1 l2.2.1 l2.2.2, h4⟩
    · obtain ⟨v2, v3, ρ⟩ := s
      obtain ⟨B1, rfl, rfl, h1, h2, h3, h4⟩ := hI
      dsimp only at h1 h2
      show dw (Bo_unwind_n66 ρ k set _ _) _
      unfold Bo_unwind_n66
      rw [if_pos (by rw [show (12 : Int32) = dn 12 from rfl, dn_le (by omega) (by omega)]; omega)]
      simp only [dw_some, dR_r]
      have h4 : B1 = dRow P.1 set 12 B0 := h4
      rw [← h4]
      exact ⟨h1, h2⟩
end D5
end
section
/-! what unwinding leaves as it is -/
abbrev dSm (B B' : dB) : Prop := (B'.2.2.2.1 = B.2.2.2.1) ∧ (B'.2.2.2.2.1 = B.2.2.2.2.1) ∧ (B'.2.2.2.2.2.1 = B.2.2.2.2.2.1) ∧ (B'.2.2.2.2.2.2.1 = B.2.2.2.2.2.2.1) ∧ (B'.2.2.2.2.2.2.2.1 = B.2.2.2.2.2.2.2.1) ∧ (B'.2.2.2.2.2.2.2.2 = B.2.2.2.2.2.2.2.2) ∧ (∀ j q, q ≠ 2 → q ≠ 12 → B'.1 j q = B.1 j q) ∧ (∀ j, B.on j → B'.1 j 2 = B.1 j 2) ∧ (∀ j, ¬ B.1 j 2 = 1 → B'.1 j 2 = B.1 j 2)
theorem dSm.tick {B B' : dB} (h0 : dSm B B') : B'.2.2.2.1 = B.2.2.2.1 := h0.1
theorem dSm.total {B B' : dB} (h0 : dSm B B') : B'.2.2.2.2.1 = B.2.2.2.2.1 := h0.2.1
theorem dSm.mode {B B' : dB} (h0 : dSm B B') : B'.2.2.2.2.2.1 = B.2.2.2.2.2.1 := h0.2.2.1
theorem dSm.step {B B' : dB} (h0 : dSm B B') : B'.2.2.2.2.2.2.1 = B.2.2.2.2.2.2.1 := h0.2.2.2.1
theorem dSm.stay {B B' : dB} (h0 : dSm B B') : B'.2.2.2.2.2.2.2.1 = B.2.2.2.2.2.2.2.1 := h0.2.2.2.2.1
theorem dSm.log {B B' : dB} (h0 : dSm B B') : B'.2.2.2.2.2.2.2.2 = B.2.2.2.2.2.2.2.2 := h0.2.2.2.2.2.1
theorem dSm.f {B B' : dB} (h0 : dSm B B') : ∀ j q, q ≠ 2 → q ≠ 12 → B'.1 j q = B.1 j q := h0.2.2.2.2.2.2.1
theorem dSm.on {B B' : dB} (h0 : dSm B B') : ∀ j, B.on j → B'.1 j 2 = B.1 j 2 := h0.2.2.2.2.2.2.2.1
theorem dSm.off {B B' : dB} (h0 : dSm B B') : ∀ j, ¬ B.1 j 2 = 1 → B'.1 j 2 = B.1 j 2 := h0.2.2.2.2.2.2.2.2
theorem dSm_refl (B : dB) : dSm B B := ⟨rfl, rfl, rfl, rfl, rfl, rfl, fun _ _ _ _ => rfl, fun _ _ => rfl, fun _ _ => rfl⟩
theorem dSm_trans {B B' B'' : dB} (h : dSm B B') (h' : dSm B' B'') : dSm B B'' :=
  ⟨h'.tick.trans h.tick, h'.total.trans h.total, h'.mode.trans h.mode, h'.step.trans h.step, h'.stay.trans h.stay, h'.log.trans h.log, fun j q h1 h2 => (h'.f j q h1 h2).trans (h.f j q h1 h2), fun j hj => (h'.on j (by unfold dB.on; rw [h.on j hj]; exact hj)).trans (h.on j hj), fun j hj => (h'.off j (by rw [h.off j hj]; exact hj)).trans (h.off j hj)⟩
theorem dSm_out {B : dB} {i : Nat} (h : B.1 i 2 = 1) : dSm B (B.out i) := by
  refine ⟨rfl, rfl, rfl, rfl, rfl, rfl, fun j q h1 h2 => dB.out_ne (Or.inr h1), fun j hj => dB.out_ne (Or.inl fun e => ?_), fun j hj => dB.out_ne (Or.inl fun e => ?_)⟩
  · subst e
    rcases hj with z | z <;> rw [z] at h <;> exact absurd h (by decide)
  · subst e; exact hj h
theorem dSm_inr {B : dB} {i : Nat} : dSm B (B.inr i) :=
  ⟨rfl, rfl, rfl, rfl, rfl, rfl, fun j q h1 h2 => dB.inr_ne (Or.inr h2), fun j hj => dB.inr_ne (Or.inr (by omega)), fun j hj => dB.inr_ne (Or.inr (by omega))⟩
theorem dSm_uw {B : dB} {set : Int32} : ∀ t, dSm B (dUW set t B) := by
  intro t
  induction t with
  | zero => exact dSm_refl B
  | succ t ih =>
    unfold dUW
    by_cases c : db set t = true ∧ (dUW set t B).1 t 2 = 1
    · rw [if_pos c]; exact dSm_trans ih (dSm_out c.2)
    · rw [if_neg c]; exact ih
theorem dSm_row {n : Nat} {set : Int32} : ∀ {k : Nat} {B : dB}, dSm B (dRow n set k B) := by
  intro k
  induction k with
  | zero => intro B; exact dSm_refl B
  | succ k ih =>
    intro B
    unfold dRow
    cases e : dLat B set n with
    | none => exact dSm_refl B
    | some i => exact dSm_trans dSm_inr ih
theorem dSm_un {n : Nat} {set : Int32} {B : dB} : dSm B (dUn n set B) := dSm_trans (dSm_uw n) dSm_row
/-! waiting, asking, failing, tripping -/
def dB.wt (B : dB) (i : Nat) : dB := ((B.st i 2 1).1, B.2.1 ++ [i], (B.st i 2 1).2.2.1, (B.st i 2 1).2.2.2.1, (B.st i 2 1).2.2.2.2.1, (B.st i 2 1).2.2.2.2.2.1, (B.st i 2 1).2.2.2.2.2.2.1, (B.st i 2 1).2.2.2.2.2.2.2.1, (B.st i 2 1).2.2.2.2.2.2.2.2)
def dWo (B : dB) (i : Nat) : dB := if B.1 i 2 = 0 then B.wt i else B
def dB.as (B : dB) (i : Nat) : dB := ((B.st i 11 (-2)).st i 10 0).st i 12 0
def dSet (P : dP) (i : Nat) : Int32 := (1 <<< (dn i &&& 31)) ||| P.2.2.2 10 i
def dAsk (P : dP) (B : dB) (i : Nat) (off : Bool) : dB :=
  if off = false then dWo (B.as i) i else if (B.as i).1 i 2 = 1 then (B.as i).out i else if (B.as i).on i then dUn P.1 (dSet P i) (B.as i) else B.as i
def dFail (B : dB) : dB := (dB.wr (B.1, B.2.1, B.2.2.1, B.2.2.2.1, B.2.2.2.2.1, 3, B.2.2.2.2.2.2.1, B.2.2.2.2.2.2.2.1, B.2.2.2.2.2.2.2.2)) (-2) 5
def dTr0 (P : dP) (B : dB) (i : Nat) : dB := (dUn P.1 (dSet P i) ((B.st i 9 (B.1 i 9 + 1)).wr (dn i) 2)).st i 12 1
def dTrip (P : dP) (B : dB) (i : Nat) : dB := if (dTr0 P B i).2.2.2.2.2.1 = 1 then dFail (dTr0 P B i) else dTr0 P B i
abbrev dB.gd (P : dP) (B : dB) (i : Nat) : Prop := B.1 i 2 = 3 ∧ ¬ B.1 i 3 * 100 < P.2.2.2 2 i * P.2.2.2 14 2
theorem dWB_st {P : dP} {B : dB} {i q : Nat} {v : Int32} (h : dWB P B) (hq : q ≠ 2) : dWB P (B.st i q v) := by
  refine ⟨h.w, h.r, fun j hj => ?_, fun j hj => ?_⟩
  · rw [dB.st_ne (Or.inr (Ne.symm hq))]; exact h.ws j hj
  · unfold dB.on
    rw [dB.st_ne (Or.inr (Ne.symm hq))]; exact h.ro j hj
theorem dWB_as {P : dP} {B : dB} {i : Nat} (h : dWB P B) : dWB P (B.as i) := dWB_st (dWB_st (dWB_st h (by omega)) (by omega)) (by omega)
theorem dWB_wt {P : dP} {B : dB} {i : Nat} (h : dWB P B) (hi : i < P.1) (h0 : B.1 i 2 = 0) : dWB P (B.wt i) := by
  have hni : i ∉ B.2.1 := fun hm => by
    have := (h.ws i hi).mpr hm
    rw [h0] at this
    exact absurd this (by decide)
  refine ⟨dL_add h.w hi hni, h.r, fun j hj => ?_, fun j hj => ?_⟩
  · by_cases e : j = i
    · subst e
      have : (B.wt j).1 j 2 = 1 := dB.st_eq
      rw [this]
      simp [dB.wt]
    · have : (B.wt i).1 j 2 = B.1 j 2 := dB.st_ne (Or.inl e)
      rw [this, h.ws j hj]
      simp [dB.wt, e]
  · have hj : j ∈ B.2.2.1 := hj
    have ho := h.ro j hj
    have e : j ≠ i := fun e => by
      subst e
      rcases ho with z | z <;> rw [z] at h0 <;> exact absurd h0 (by decide)
    have : (B.wt i).1 j 2 = B.1 j 2 := dB.st_ne (Or.inl e)
    unfold dB.on
    rw [this]
    exact ho
theorem dWB_wo {P : dP} {B : dB} {i : Nat} (h : dWB P B) (hi : i < P.1) : dWB P (dWo B i) := by
  unfold dWo
  by_cases c : B.1 i 2 = 0
  · rw [if_pos c]; exact dWB_wt h hi c
  · rw [if_neg c]; exact h
theorem dWB_ask {P : dP} {B : dB} {i : Nat} {off : Bool} (h : dWB P B) (hi : i < P.1) : dWB P (dAsk P B i off) := by
  unfold dAsk
  have h1 := dWB_as (i := i) h
  by_cases c : off = false
  · rw [if_pos c]; exact dWB_wo h1 hi
  · rw [if_neg c]
    by_cases c2 : (B.as i).1 i 2 = 1
    · rw [if_pos c2]; exact dWB_out h1 c2
    · rw [if_neg c2]
      by_cases c3 : (B.as i).on i
      · rw [if_pos c3]; exact dWB_un h1
      · rw [if_neg c3]; exact h1
theorem dWB_wr {P : dP} {B : dB} {r w : Int32} (h : dWB P B) : dWB P (B.wr r w) := ⟨h.w, h.r, h.ws, h.ro⟩
theorem dWB_md {P : dP} {B B' : dB} (h : dWB P B) (hf : B'.1 = B.1) (hw : B'.2.1 = B.2.1) (hr : B'.2.2.1 = B.2.2.1) : dWB P B' :=
  ⟨by rw [hw]; exact h.w, by rw [hr]; exact h.r, by rw [hw, hf]; exact h.ws, by rw [hr]; unfold dB.on; rw [hf]; exact h.ro⟩
theorem dWB_fail {P : dP} {B : dB} (h : dWB P B) : dWB P (dFail B) := dWB_md h rfl rfl rfl
theorem dWB_trip {P : dP} {B : dB} {i : Nat} (h : dWB P B) : dWB P (dTrip P B i) := by
  have h1 : dWB P (dTr0 P B i) := dWB_st (dWB_un (dWB_wr (dWB_st h (by omega)))) (by omega)
  unfold dTrip
  by_cases c : (dTr0 P B i).2.2.2.2.2.1 = 1
  · rw [if_pos c]; exact dWB_fail h1
  · rw [if_neg c]; exact h1
section D6
variable {σ : pxS} {k p : Nat} {P : dP} {B B1 B2 : dB}
theorem dC_on {i : Nat} (h : dC σ k p P B) (hP : dWP P) (hi : i < P.1) : F_Bo_isOn σ k (dn i) = some (if B.on i then 1 else 0) := by
  have hn := hP.n
  unfold F_Bo_isOn Bo_isOn_n26
  have hg : ¬ dn i < 0 ∧ (dn i).toNatClampNeg < 12 := ⟨dn_nn (by omega), by rw [dn_nat (by omega)]; omega⟩
  unfold px_gd
  rw [if_pos hg, if_pos hg, dn_nat (by omega), h.f i hi 2 (by omega)]
  unfold dB.on
  by_cases c : B.1 i 2 = 2
  · simp [c]
  · by_cases c2 : B.1 i 2 = 3 <;> simp [c, c2]
theorem dC_gd {i : Nat} (h : dC σ k p P B) (hP : dWP P) (hp : p < 2) (hi : i < P.1) : F_Bo_isGood σ k (dn i) = some (if B.gd P i then 1 else 0) := by
  have hn := hP.n
  unfold F_Bo_isGood Bo_isGood_n51
  have hg : ¬ dn i < 0 ∧ (dn i).toNatClampNeg < 12 := ⟨dn_nn (by omega), by rw [dn_nat (by omega)]; omega⟩
  unfold px_gd
  simp only [if_pos hg]
  rw [dn_nat (by omega), h.f i hi 2 (by omega), h.f i hi 3 (by omega), h.hp, dn_nat (by omega), h.P.a 2 (by omega) i hi, h.P.e 2 (by omega)]
  by_cases c : B.1 i 2 = 3
  · by_cases c2 : B.1 i 3 * 100 < P.2.2.2 2 i * P.2.2.2 14 2
    · rw [if_pos c, if_pos c2, if_neg (fun z : B.gd P i => z.2 c2)]
    · rw [if_pos c, if_neg c2, if_pos (show B.gd P i from ⟨c, c2⟩)]
  · rw [if_neg c, if_neg (fun z : B.gd P i => c z.1)]
theorem dT_wo {i : Nat} (h : dC σ k p P B) (hP : dWP P) (hB : dWB P B) (hi : i < P.1) : dT σ k p P (F_Bo_waitIfOff σ k (dn i)) (dWo B i) := by
  have hn := hP.n
  unfold F_Bo_waitIfOff dWo
  refine dT_gi hi hP ?_
  rw [dn_nat (by omega), h.f i hi 2 (by omega)]
  by_cases c : B.1 i 2 = 0
  · rw [if_pos c, if_pos c]
    refine dT_gi hi hP (dT_st h fun τ hτ => ?_)
    have hni : i ∉ B.2.1 := fun hm => by
      have := (hB.ws i hi).mpr hm
      rw [c] at this
      exact absurd this (by decide)
    exact dT_b (dT_wadd hτ hB.w hn hi hni) fun τ2 h2 => dT_some h2
  · rw [if_neg c, if_neg c]
    exact dT_some h
theorem dC_below {i : Nat} (h : dC σ k p P B) (hp : p < 2) (hi : i < P.1) : σ (8, (σ (2, k, 0) 4).toNatClampNeg, 10) i = P.2.2.2 10 i := by
  rw [h.hp, dn_nat (by omega)]; exact h.P.a 10 (by omega) i hi
theorem dT_ask {i : Nat} {off : Bool} (h : dC σ k p P B) (hP : dWP P) (hp : p < 2) (hB : dWB P B) (hi : i < P.1) : dT σ k p P (F_Bo_askRail σ k (dn i) (if off then 1 else 0)) (dAsk P B i off) := by
  have hn := hP.n
  unfold F_Bo_askRail dAsk
  refine dT_gi hi hP ?_
  rw [dn_nat (by omega)]
  refine dT_st h fun τ1 h1 => dT_st h1 fun τ2 h2 => dT_st h2 fun τ h => ?_
  have hB := dWB_as (i := i) hB
  change dC τ k p P (B.as i) at h
  generalize B.as i = B at h hB
  clear h1 h2
  cases off with
  | false =>
    rw [if_pos (by rfl), if_pos rfl]
    exact dT_b (dT_wo h hP hB hi) fun τ2 h2 => dT_some h2
  | true =>
    rw [if_neg (show ¬ (if true = true then (1 : Int32) else 0) = 0 by decide), if_neg (show ¬ (true = false) by decide), h.f i hi 2 (by omega)]
    by_cases c : B.1 i 2 = 1
    · rw [if_pos c, if_pos c]
      refine dT_st h fun τ1 h1 => dT_b (dT_wdrop h1 hB.w hn hi) fun τ2 h2 => dT_some h2
    · rw [if_neg c, if_neg c]
      refine dT_v (dC_on h hP hi) ?_
      by_cases c2 : B.on i
      · rw [if_pos c2, if_neg (by decide), if_pos c2]
        refine dT_gi hi hP ?_
        rw [dC_below h hp hi]
        exact dT_b (dT_un h hB hp hP) fun τ2 h2 => dT_some h2
      · rw [if_neg c2, if_pos rfl, if_neg c2]
        exact dT_some h
theorem dT_fail (h : dC σ k p P B) (hl : B.2.2.2.2.2.2.2.2.length < 1000000) : dT σ k p P (F_Bo_failSequence σ k) (dFail B) := by
  unfold F_Bo_failSequence dFail
  refine dT_l (dF_up (by simp [dbk])) (dC_bd (B1 := (B.1, B.2.1, B.2.2.1, B.2.2.2.1, B.2.2.2.2.1, 3, B.2.2.2.2.2.2.1, B.2.2.2.2.2.2.2.1, B.2.2.2.2.2.2.2.2)) h (by omega) ⟨rfl, rfl, rfl, rfl⟩ rfl rfl rfl rfl rfl) fun τ hτ => ?_
  exact dT_b (dT_wr hτ hl) fun τ2 h2 => dT_some h2
theorem dT_trip {i : Nat} (h : dC σ k p P B) (hP : dWP P) (hp : p < 2) (hB : dWB P B) (hi : i < P.1) (hl : B.2.2.2.2.2.2.2.2.length < 999990) (hm : B.2.2.2.2.2.1 < 4) : dT σ k p P (F_Bo_trip σ k (dn i)) (dTrip P B i) := by
  have hn := hP.n
  unfold F_Bo_trip dTrip
  refine dT_gi hi hP ?_
  rw [dn_nat (by omega), h.f i hi 9 (by omega)]
  refine dT_st h fun τ1 h1 => dT_b (dT_wr h1 (by show B.2.2.2.2.2.2.2.2.length < _; omega)) fun τ2 h2 => dT_gi hi hP ?_
  rw [dC_below h2 hp hi]
  have hB2 : dWB P ((B.st i 9 (B.1 i 9 + 1)).wr (dn i) 2) := dWB_wr (dWB_st hB (by omega))
  refine dT_b (dT_un h2 hB2 hp hP) fun τ3 h3 => dT_gi hi hP (dT_st h3 fun τ h => ?_)
  change dC τ k p P (dTr0 P B i) at h
  have sm : dSm ((B.st i 9 (B.1 i 9 + 1)).wr (dn i) 2) (dUn P.1 (dSet P i) ((B.st i 9 (B.1 i 9 + 1)).wr (dn i) 2)) := dSm_un
  have e1 : (dTr0 P B i).2.2.2.2.2.1 = B.2.2.2.2.2.1 := sm.mode
  have e2 : (dTr0 P B i).2.2.2.2.2.2.2.2.length = B.2.2.2.2.2.2.2.2.length + 1 := congrArg List.length sm.log
  rw [h.mode]
  by_cases c : (dTr0 P B i).2.2.2.2.2.1 = 1
  · rw [if_pos c, if_pos (by rw [c]; rfl)]
    exact dT_b (dT_fail h (by omega)) fun τ2 h2 => dT_some h2
  · rw [if_neg c, if_neg (by rw [show (1 : Int32) = dn 1 from rfl, dn_inj (by omega) (by omega)]; exact c)]
    exact dT_some h
end D6
end
section
/-! a loop's board -/
def dFo (g : dB → Nat → dB) : Nat → dB → dB
  | 0, B => B
  | t + 1, B => g (dFo g t B) t
theorem dFo_inv {g : dB → Nat → dB} {I : Nat → dB → Prop} {n : Nat} {B : dB} (h : I 0 B) (hs : ∀ t B, t < n → I t B → I (t + 1) (g B t)) : ∀ t, t ≤ n → I t (dFo g t B) := by
  intro t
  induction t with
  | zero => intro _; exact h
  | succ t ih => intro ht; exact hs t _ (by omega) (ih (by omega))
/-- coming again -/
def dCA1 (B : dB) (t : Nat) : dB :=
  if B.1 t 11 = dn B.2.2.2.1 then (if B.1 t 2 = 0 then (((B.st t 11 (-2)).wt t).st t 10 (B.1 t 10 + 1)).wr (dn t) 7 else B.st t 11 (-2)) else B
theorem dWB_ca1 {P : dP} {B : dB} {t : Nat} (h : dWB P B) (ht : t < P.1) : dWB P (dCA1 B t) := by
  unfold dCA1
  by_cases c : B.1 t 11 = dn B.2.2.2.1
  · rw [if_pos c]
    by_cases c2 : B.1 t 2 = 0
    · rw [if_pos c2]
      exact dWB_wr (dWB_st (dWB_wt (dWB_st h (by omega)) ht (by rw [dB.st_ne (Or.inr (by omega))]; exact c2)) (by omega))
    · rw [if_neg c2]; exact dWB_st h (by omega)
  · rw [if_neg c]; exact h
theorem dCA1_l (B : dB) (t : Nat) : (dCA1 B t).2.2.2.2.2.2.2.2.length ≤ B.2.2.2.2.2.2.2.2.length + 1 ∧ (dCA1 B t).2.2.2.2.2.1 = B.2.2.2.2.2.1 ∧ (dCA1 B t).2.2.2.1 = B.2.2.2.1 ∧ (dCA1 B t).2.2.2.2.2.2.1 = B.2.2.2.2.2.2.1 ∧ (dCA1 B t).2.2.2.2.2.2.2.1 = B.2.2.2.2.2.2.2.1 ∧ (dCA1 B t).2.2.2.2.1 = B.2.2.2.2.1 := by
  unfold dCA1
  by_cases c : B.1 t 11 = dn B.2.2.2.1
  · rw [if_pos c]
    by_cases c2 : B.1 t 2 = 0
    · rw [if_pos c2]; exact ⟨Nat.le_refl _, rfl, rfl, rfl, rfl, rfl⟩
    · rw [if_neg c2]; exact ⟨Nat.le_succ _, rfl, rfl, rfl, rfl, rfl⟩
  · rw [if_neg c]; exact ⟨Nat.le_succ _, rfl, rfl, rfl, rfl, rfl⟩
def dCA (P : dP) (B : dB) : dB := dFo dCA1 P.1 B
/-! the sequence -/
def dAll (n : Nat) : Int32 := (1 <<< (dn n &&& 31)) - 1
def dStp (P : dP) (B : dB) : Bool × dB :=
  if P.2.2.2 11 B.2.2.2.2.2.2.1 = 0 then (true, dAsk P B (P.2.2.2 12 B.2.2.2.2.2.2.1).toNatClampNeg false)
  else if P.2.2.2 11 B.2.2.2.2.2.2.1 = 1 then (true, dAsk P B (P.2.2.2 12 B.2.2.2.2.2.2.1).toNatClampNeg true)
  else if P.2.2.2 11 B.2.2.2.2.2.2.1 = 2 then (if B.2.2.2.2.2.2.2.1 < (P.2.2.2 13 B.2.2.2.2.2.2.1).toNatClampNeg then (false, (B.1, B.2.1, B.2.2.1, B.2.2.2.1, B.2.2.2.2.1, B.2.2.2.2.2.1, B.2.2.2.2.2.2.1, B.2.2.2.2.2.2.2.1 + 1, B.2.2.2.2.2.2.2.2)) else (true, B))
  else if B.gd P (P.2.2.2 12 B.2.2.2.2.2.2.1).toNatClampNeg then (true, B)
  else if B.2.2.2.2.2.2.2.1 + 1 < (P.2.2.2 13 B.2.2.2.2.2.2.1).toNatClampNeg then (false, (B.1, B.2.1, B.2.2.1, B.2.2.2.1, B.2.2.2.2.1, B.2.2.2.2.2.1, B.2.2.2.2.2.2.1, B.2.2.2.2.2.2.2.1 + 1, B.2.2.2.2.2.2.2.2))
  else (false, dUn P.1 (dAll P.1) (dFail (B.1, B.2.1, B.2.2.1, B.2.2.2.1, B.2.2.2.2.1, B.2.2.2.2.2.1, B.2.2.2.2.2.2.1, B.2.2.2.2.2.2.2.1 + 1, B.2.2.2.2.2.2.2.2)))
def dSq (P : dP) : Nat → dB → dB
  | 0, B => B
  | k + 1, B => if B.2.2.2.2.2.1 = 1 then (if B.2.2.2.2.2.2.1 < P.2.2.1 then (match dStp P B with
    | (true, B1) => dSq P k (B1.1, B1.2.1, B1.2.2.1, B1.2.2.2.1, B1.2.2.2.2.1, B1.2.2.2.2.2.1, B1.2.2.2.2.2.2.1 + 1, 0, B1.2.2.2.2.2.2.2.2)
    | (false, B1) => B1) else dSq P k ((dB.wr (B.1, B.2.1, B.2.2.1, B.2.2.2.1, B.2.2.2.2.1, 2, B.2.2.2.2.2.2.1, B.2.2.2.2.2.2.2.1, B.2.2.2.2.2.2.2.2)) (-2) 6)) else B
/-- a plan's steps as they must be -/
def dWS (P : dP) : Prop := ∀ k, k < P.2.2.1 → (P.2.2.2 11 k = 0 ∨ P.2.2.2 11 k = 1 ∨ P.2.2.2 11 k = 2 ∨ P.2.2.2 11 k = 3) ∧ (¬ P.2.2.2 11 k = 2 → ∃ j, j < P.1 ∧ P.2.2.2 12 k = dn j) ∧ ∃ t, t < 100 ∧ P.2.2.2 13 k = dn t ∧ (P.2.2.2 11 k = 3 → 1 ≤ t)
theorem dAsk_n {P : dP} {B : dB} {i : Nat} {off : Bool} : (dAsk P B i off).2.2.2.2.2.2.2.2 = B.2.2.2.2.2.2.2.2 ∧ (dAsk P B i off).2.2.2.2.2.1 = B.2.2.2.2.2.1 ∧ (dAsk P B i off).2.2.2.1 = B.2.2.2.1 ∧ (dAsk P B i off).2.2.2.2.2.2.1 = B.2.2.2.2.2.2.1 ∧ (dAsk P B i off).2.2.2.2.2.2.2.1 = B.2.2.2.2.2.2.2.1 ∧ (dAsk P B i off).2.2.2.2.1 = B.2.2.2.2.1 := by
  unfold dAsk dWo
  by_cases c : off = false
  · rw [if_pos c]
    by_cases c1 : (B.as i).1 i 2 = 0
    · rw [if_pos c1]; exact ⟨rfl, rfl, rfl, rfl, rfl, rfl⟩
    · rw [if_neg c1]; exact ⟨rfl, rfl, rfl, rfl, rfl, rfl⟩
  · rw [if_neg c]
    by_cases c2 : (B.as i).1 i 2 = 1
    · rw [if_pos c2]; exact ⟨rfl, rfl, rfl, rfl, rfl, rfl⟩
    · rw [if_neg c2]
      by_cases c3 : (B.as i).on i
      · rw [if_pos c3]
        have h := dSm_un (n := P.1) (set := dSet P i) (B := B.as i)
        exact ⟨h.log, h.mode, h.tick, h.step, h.stay, h.total⟩
      · rw [if_neg c3]; exact ⟨rfl, rfl, rfl, rfl, rfl, rfl⟩
section D7
variable {σ : pxS} {k p : Nat} {P : dP} {B B1 B2 : dB}
theorem dT_ca (h : dC σ k p P B) (hP : dWP P) (hp : p < 2) (hB : dWB P B) (hl : B.2.2.2.2.2.2.2.2.length < 900000) (ht : B.2.2.2.1 < 100000) : dT σ k p P (F_Bo_comeAgain σ k) (dCA P B) := by
  have hn := hP.n
  unfold F_Bo_comeAgain dCA
  refine dT_b ?_ fun τ h' => dT_some h'
  have inv := dFo_inv (g := dCA1) (I := fun t B' => dWB P B' ∧ B'.2.2.2.2.2.2.2.2.length ≤ B.2.2.2.2.2.2.2.2.length + t ∧ B'.2.2.2.1 = B.2.2.2.1) (n := P.1) (B := B) ⟨hB, Nat.le_refl _, rfl⟩ (fun t B' ht' ⟨h1, h2, h3⟩ => ⟨dWB_ca1 h1 ht', by have := (dCA1_l B' t).1; omega, ((dCA1_l B' t).2.2.1).trans h3⟩)
  refine dT_for P.1 (by unfold px_N; omega) (fun t => dFo dCA1 t B) h (fun t τ htn hτ => ?_) (fun τ hτ => ?_)
  · obtain ⟨hW, hL, hT⟩ := inv t (by omega)
    show dw (Bo_comeAgain_n2 τ k (dn t)) (dR (fun s => s.1 = dn (t + 1) ∧ dC s.2 k p P (dCA1 (dFo dCA1 t B) t) ∧ dF k τ s.2) _)
    generalize dFo dCA1 t B = B at hτ hW hL hT
    unfold Bo_comeAgain_n2 Bo_comeAgain_n66
    rw [dC_n hτ hp, if_neg (by rw [dn_le (by omega) (by omega)]; omega)]
    refine dw_gd.mpr ⟨⟨dn_nn (by omega), by rw [dn_nat (by omega)]; omega⟩, ?_⟩
    rw [dn_nat (by omega), hτ.f t htn 11 (by omega), hτ.tick]
    unfold dCA1
    by_cases c : B.1 t 11 = dn B.2.2.2.1
    · rw [if_pos c, if_pos c, dw_l]
      have h1 := dC_st (i := t) (q := 11) (v := -2) hτ
      rw [h1.f t htn 2 (by omega), dB.st_ne (Or.inr (by omega))]
      have hf : dF k τ (px_up τ (3, k, t) 11 (-2)) := dF_up (by simp [dbk])
      generalize px_up τ (3, k, t) 11 (-2) = τ1 at h1 hf
      by_cases c2 : B.1 t 2 = 0
      · rw [if_pos c2, if_pos c2]
        have g : dT τ1 k p P (px_b1 (F_Bo_waitIfOff τ1 k (dn t)) fun σ3 => px_l (px_up σ3 (3, k, t) 10 (σ3 (3, k, t) 10 + 1)) fun σ4 => px_b1 (F_Bo_write σ4 k (dn t) 7) fun σ5 => some σ5) ((((B.st t 11 (-2)).wt t).st t 10 (B.1 t 10 + 1)).wr (dn t) 7) := by
          have e : dWo (B.st t 11 (-2)) t = (B.st t 11 (-2)).wt t := by
            unfold dWo
            rw [if_pos (by rw [dB.st_ne (Or.inr (by omega))]; exact c2)]
          refine dT_b (B1 := (B.st t 11 (-2)).wt t) (e ▸ dT_wo h1 hP (dWB_st hW (by omega)) htn) fun τ2 h2 => ?_
          rw [h2.f t htn 10 (by omega)]
          have e2 : ((B.st t 11 (-2)).wt t).1 t 10 = B.1 t 10 := (dB.st_ne (Or.inr (by omega))).trans (dB.st_ne (Or.inr (by omega)))
          rw [e2]
          exact dT_st h2 fun τ3 h3 => dT_b (dT_wr h3 (by show B.2.2.2.2.2.2.2.2.length < _; omega)) fun τ4 h4 => dT_some h4
        obtain ⟨τ5, e5, g1, g2⟩ := g
        refine dw_mono (P := fun r => r = .inl (dn t + 1, τ5)) ?_ fun r hr => by rw [hr]; exact ⟨dn_suc t, g1, dF_trans hf g2⟩
        cases e3 : F_Bo_waitIfOff τ1 k (dn t) with
        | none => rw [e3] at e5; cases e5
        | some τ2 =>
          rw [e3] at e5
          simp only [px_b1, px_l] at e5 ⊢
          cases e4 : F_Bo_write (px_up τ2 (3, k, t) 10 (τ2 (3, k, t) 10 + 1)) k (dn t) 7 with
          | none => rw [e4] at e5; cases e5
          | some τ4 =>
            rw [e4] at e5
            dsimp only at e5 ⊢
            cases e5
            exact dw_some.mpr rfl
      · rw [if_neg c2, if_neg c2]
        simp only [dw_some, dR_l]
        exact ⟨dn_suc t, h1, hf⟩
    · rw [if_neg c, if_neg c]
      simp only [dw_some, dR_l]
      exact ⟨dn_suc t, hτ, dF_refl k τ⟩
  · show Bo_comeAgain_n2 τ k (dn P.1) = _
    unfold Bo_comeAgain_n2
    rw [dC_n hτ hp, if_pos (by rw [dn_le (by omega) (by omega)]; omega)]
end D7
end
section
theorem db_all {n i : Nat} (hn : n ≤ 12) (hi : i < 32) : db (dAll n) i = decide (i < n) := by
  have : ∀ n : Fin 13, ∀ i : Fin 32, db (dAll n.val) i.val = decide (i.val < n.val) := by decide +kernel
  exact this ⟨n, by omega⟩ ⟨i, hi⟩
section D8
variable {α : Type} {σ : pxS} {k p : Nat} {P : dP} {B B1 B2 : dB} {Q : α → Prop}
theorem dw_T {o : Option pxS} {f : pxS → Option α} (h : dT σ k p P o B1) (hf : ∀ σ1, dC σ1 k p P B1 → dF k σ σ1 → dw (f σ1) Q) : dw (px_b1 o f) Q :=
  dw_b1.mpr (dw_mono h fun σ1 h1 => hf σ1 h1.1 h1.2)
theorem dw_st {i q : Nat} {v : Int32} {f : pxS → Option α} (h : dC σ k p P B) (hf : ∀ σ1, dC σ1 k p P (B.st i q v) → dF k σ σ1 → dw (f σ1) Q) : dw (px_l (px_up σ (3, k, i) q v) f) Q :=
  hf _ (dC_st h) (dF_up (by simp [dbk]))
theorem dw_bd {q : Nat} {v : Int32} {f : pxS → Option α} (B1 : dB) (h : dC σ k p P B) (hq : 5 ≤ q ∧ q < 10) (hw : B1.1 = B.1 ∧ B1.2.1 = B.2.1 ∧ B1.2.2.1 = B.2.2.1 ∧ B1.2.2.2.2.2.2.2.2 = B.2.2.2.2.2.2.2.2) (h5 : (if q = 5 then v else dn B.2.2.2.1) = dn B1.2.2.2.1) (h6 : (if q = 6 then v else B.2.2.2.2.1) = B1.2.2.2.2.1) (h7 : (if q = 7 then v else dn B.2.2.2.2.2.1) = dn B1.2.2.2.2.2.1) (h8 : (if q = 8 then v else dn B.2.2.2.2.2.2.1) = dn B1.2.2.2.2.2.2.1) (h9 : (if q = 9 then v else dn B.2.2.2.2.2.2.2.1) = dn B1.2.2.2.2.2.2.2.1) (hf : ∀ σ1, dC σ1 k p P B1 → dF k σ σ1 → dw (f σ1) Q) : dw (px_l (px_up σ (2, k, 0) q v) f) Q :=
  hf _ (dC_bd h hq hw h5 h6 h7 h8 h9) (dF_up (by simp [dbk]))
theorem dw_v {β : Type} {o : Option β} {f : β → Option α} {r : β} (e : o = some r) (h : dw (f r) Q) : dw (px_b1 o f) Q := by
  rw [e]; exact h
theorem dw_gi {N i : Nat} {A : Option α} (hi : i < N) (hN : N < 2147483648) (h : dw A Q) : dw (px_gd (dn i) N A) Q :=
  dw_gd.mpr ⟨⟨dn_nn (by omega), by rw [dn_nat (by omega)]; exact hi⟩, h⟩
theorem dF_2 {σ1 σ2 : pxS} (h : dF k σ σ1) (h' : dF k σ1 σ2) : dF k σ σ2 := dF_trans h h'
theorem dC_all (h : dC σ k p P B) (hp : p < 2) : F_Pl_allRails σ (σ (2, k, 0) 4) = some (dAll P.1) := by
  unfold F_Pl_allRails
  rw [h.hp, dn_nat (by omega), h.P.n]
  rfl
/-- a step, as the class takes it -/
theorem dT_stp (h : dC σ k p P B) (hP : dWP P) (hS : dWS P) (hp : p < 2) (hB : dWB P B) (hs : B.2.2.2.2.2.2.1 < P.2.2.1) (hy : B.2.2.2.2.2.2.2.1 < 1000000) (hl : B.2.2.2.2.2.2.2.2.length < 900000) : dw (F_Bo_takesStep σ k) (fun r => r.1 = (if (dStp P B).1 then 1 else 0) ∧ dC r.2 k p P (dStp P B).2 ∧ dF k σ r.2) := by
  have hn := hP.n
  have hst := hP.st
  obtain ⟨s1, s2, t, s3, s4, s5⟩ := hS B.2.2.2.2.2.2.1 hs
  unfold F_Bo_takesStep Bo_takesStep_n150
  rw [h.step]
  refine dw_gi (by omega) (by omega) (dw_gi (by omega) (by omega) (dw_gi (by omega) (by omega) ?_))
  rw [dn_nat (by omega), h.hp, dn_nat (by omega), h.P.s 11 (by omega) (by omega) B.2.2.2.2.2.2.1 hs, h.P.s 12 (by omega) (by omega) B.2.2.2.2.2.2.1 hs, h.P.s 13 (by omega) (by omega) B.2.2.2.2.2.2.1 hs, h.stay]
  unfold dStp
  rw [s4, dn_nat (by omega)]
  by_cases c0 : P.2.2.2 11 B.2.2.2.2.2.2.1 = 0
  · obtain ⟨j, hj, ej⟩ := s2 (by rw [c0]; decide)
    rw [if_pos c0, if_neg (by rw [c0]; decide), if_pos c0, ej, dn_nat (by omega)]
    exact dw_T (dT_ask (off := false) h hP hp hB hj) fun τ h1 f1 => dw_some.mpr ⟨rfl, h1, f1⟩
  · rw [if_neg c0, if_neg c0]
    by_cases c1 : P.2.2.2 11 B.2.2.2.2.2.2.1 = 1
    · obtain ⟨j, hj, ej⟩ := s2 (by rw [c1]; decide)
      rw [if_pos c1, if_pos c1, if_pos c1, ej, dn_nat (by omega)]
      exact dw_T (dT_ask (off := true) h hP hp hB hj) fun τ h1 f1 => dw_some.mpr ⟨rfl, h1, f1⟩
    · rw [if_neg c1, if_neg c1]
      by_cases c2 : P.2.2.2 11 B.2.2.2.2.2.2.1 = 2
      · rw [if_pos c2, if_pos c2]
        by_cases c3 : B.2.2.2.2.2.2.2.1 < t
        · rw [if_pos c3, if_pos (by rw [dn_lt (by omega) (by omega)]; exact c3), dn_suc]
          exact dw_bd (B.1, B.2.1, B.2.2.1, B.2.2.2.1, B.2.2.2.2.1, B.2.2.2.2.2.1, B.2.2.2.2.2.2.1, B.2.2.2.2.2.2.2.1 + 1, B.2.2.2.2.2.2.2.2) h (by omega) ⟨rfl, rfl, rfl, rfl⟩ rfl rfl rfl rfl rfl fun τ h1 f1 => dw_some.mpr ⟨rfl, h1, f1⟩
        · rw [if_neg c3, if_neg (by rw [dn_lt (by omega) (by omega)]; exact c3)]
          exact dw_some.mpr ⟨rfl, h, dF_refl k σ⟩
      · obtain ⟨j, hj, ej⟩ := s2 c2
        rw [if_neg c2, if_neg c2, ej]
        refine dw_v (dC_gd h hP hp hj) ?_
        rw [dn_nat (by omega)]
        by_cases c4 : B.gd P j
        · rw [if_pos c4, if_neg (by decide), if_pos c4]
          exact dw_some.mpr ⟨rfl, h, dF_refl k σ⟩
        · rw [if_neg c4, if_pos rfl, if_neg c4, dn_suc]
          refine dw_bd (B.1, B.2.1, B.2.2.1, B.2.2.2.1, B.2.2.2.2.1, B.2.2.2.2.2.1, B.2.2.2.2.2.2.1, B.2.2.2.2.2.2.2.1 + 1, B.2.2.2.2.2.2.2.2) h (by omega) ⟨rfl, rfl, rfl, rfl⟩ rfl rfl rfl rfl rfl fun τ h1 f1 => ?_
          rw [h1.stay]
          by_cases c5 : B.2.2.2.2.2.2.2.1 + 1 < t
          · rw [if_pos c5, if_pos (by rw [dn_lt (by show B.2.2.2.2.2.2.2.1 + 1 < _; omega) (by omega)]; exact c5)]
            exact dw_some.mpr ⟨rfl, h1, f1⟩
          · rw [if_neg c5, if_neg (by rw [dn_lt (by show B.2.2.2.2.2.2.2.1 + 1 < _; omega) (by omega)]; exact c5)]
            refine dw_T (dT_fail h1 (by show B.2.2.2.2.2.2.2.2.length < _; omega)) fun τ2 h2 f2 => dw_v (dC_all h2 hp) ?_
            exact dw_T (dT_un h2 (dWB_fail (dWB_md hB rfl rfl rfl)) hp hP) fun τ3 h3 f3 => dw_some.mpr ⟨rfl, h3, dF_trans f1 (dF_trans f2 f3)⟩
theorem dWB_stp (hS : dWS P) (hn : P.1 ≤ 12) (hB : dWB P B) (hs : B.2.2.2.2.2.2.1 < P.2.2.1) : dWB P (dStp P B).2 := by
  obtain ⟨s1, s2, t, s3, s4, s5⟩ := hS B.2.2.2.2.2.2.1 hs
  unfold dStp
  by_cases c0 : P.2.2.2 11 B.2.2.2.2.2.2.1 = 0
  · obtain ⟨j, hj, ej⟩ := s2 (by rw [c0]; decide)
    rw [if_pos c0, ej, dn_nat (by omega)]; exact dWB_ask (off := false) hB hj
  · rw [if_neg c0]
    by_cases c1 : P.2.2.2 11 B.2.2.2.2.2.2.1 = 1
    · obtain ⟨j, hj, ej⟩ := s2 (by rw [c1]; decide)
      rw [if_pos c1, ej, dn_nat (by omega)]; exact dWB_ask (off := true) hB hj
    · rw [if_neg c1]
      by_cases c2 : P.2.2.2 11 B.2.2.2.2.2.2.1 = 2
      · rw [if_pos c2]
        by_cases c3 : B.2.2.2.2.2.2.2.1 < (P.2.2.2 13 B.2.2.2.2.2.2.1).toNatClampNeg
        · rw [if_pos c3]; exact dWB_md hB rfl rfl rfl
        · rw [if_neg c3]; exact hB
      · rw [if_neg c2]
        by_cases c4 : B.gd P (P.2.2.2 12 B.2.2.2.2.2.2.1).toNatClampNeg
        · rw [if_pos c4]; exact hB
        · rw [if_neg c4]
          by_cases c5 : B.2.2.2.2.2.2.2.1 + 1 < (P.2.2.2 13 B.2.2.2.2.2.2.1).toNatClampNeg
          · rw [if_pos c5]; exact dWB_md hB rfl rfl rfl
          · rw [if_neg c5]; exact dWB_un (dWB_fail (dWB_md hB rfl rfl rfl))
/-- what a step leaves: the log by one line more at most; where it is through, all else but the rails and the rows -/
theorem dStp_n : (dStp P B).2.2.2.2.2.2.2.2.2.length ≤ B.2.2.2.2.2.2.2.2.length + 1 ∧ (dStp P B).2.2.2.2.1 = B.2.2.2.1 ∧ (dStp P B).2.2.2.2.2.2.2.1 = B.2.2.2.2.2.2.1 ∧ (dStp P B).2.2.2.2.2.1 = B.2.2.2.2.1 ∧ (dStp P B).2.2.2.2.2.2.1 ≤ max B.2.2.2.2.2.1 3 ∧ ((dStp P B).1 = true → (dStp P B).2.2.2.2.2.2.1 = B.2.2.2.2.2.1 ∧ (dStp P B).2.2.2.2.2.2.2.2.2 = B.2.2.2.2.2.2.2.2) := by
  unfold dStp
  by_cases c0 : P.2.2.2 11 B.2.2.2.2.2.2.1 = 0
  · rw [if_pos c0]
    obtain ⟨h1, h2, h3, h4, h5, h6⟩ := dAsk_n (P := P) (B := B) (i := (P.2.2.2 12 B.2.2.2.2.2.2.1).toNatClampNeg) (off := false)
    exact ⟨by dsimp only; rw [h1]; omega, h3, h4, h6, by dsimp only; rw [h2]; omega, fun _ => ⟨h2, h1⟩⟩
  · rw [if_neg c0]
    by_cases c1 : P.2.2.2 11 B.2.2.2.2.2.2.1 = 1
    · rw [if_pos c1]
      obtain ⟨h1, h2, h3, h4, h5, h6⟩ := dAsk_n (P := P) (B := B) (i := (P.2.2.2 12 B.2.2.2.2.2.2.1).toNatClampNeg) (off := true)
      exact ⟨by dsimp only; rw [h1]; omega, h3, h4, h6, by dsimp only; rw [h2]; omega, fun _ => ⟨h2, h1⟩⟩
    · rw [if_neg c1]
      by_cases c2 : P.2.2.2 11 B.2.2.2.2.2.2.1 = 2
      · rw [if_pos c2]
        by_cases c3 : B.2.2.2.2.2.2.2.1 < (P.2.2.2 13 B.2.2.2.2.2.2.1).toNatClampNeg
        · rw [if_pos c3]; exact ⟨Nat.le_succ _, rfl, rfl, rfl, by dsimp only; omega, fun h => by cases h⟩
        · rw [if_neg c3]; exact ⟨Nat.le_succ _, rfl, rfl, rfl, by dsimp only; omega, fun _ => ⟨rfl, rfl⟩⟩
      · rw [if_neg c2]
        by_cases c4 : B.gd P (P.2.2.2 12 B.2.2.2.2.2.2.1).toNatClampNeg
        · rw [if_pos c4]; exact ⟨Nat.le_succ _, rfl, rfl, rfl, by dsimp only; omega, fun _ => ⟨rfl, rfl⟩⟩
        · rw [if_neg c4]
          by_cases c5 : B.2.2.2.2.2.2.2.1 + 1 < (P.2.2.2 13 B.2.2.2.2.2.2.1).toNatClampNeg
          · rw [if_pos c5]; exact ⟨Nat.le_succ _, rfl, rfl, rfl, by dsimp only; omega, fun h => by cases h⟩
          · rw [if_neg c5]
            have h := dSm_un (n := P.1) (set := dAll P.1) (B := dFail (B.1, B.2.1, B.2.2.1, B.2.2.2.1, B.2.2.2.2.1, B.2.2.2.2.2.1, B.2.2.2.2.2.2.1, B.2.2.2.2.2.2.2.1 + 1, B.2.2.2.2.2.2.2.2))
            exact ⟨by dsimp only; rw [h.log]; exact Nat.le_refl _, h.tick, h.step, h.total, by dsimp only; rw [h.mode]; show 3 ≤ _; omega, fun h => by cases h⟩
end D8
end
