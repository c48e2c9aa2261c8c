section
/-! the reading told: a plan under way, or a fault -/
def dfn (g : Nat → Int32) (n : Nat) (v : Int32) : Int32 := match (List.range n).find? (fun i => decide (g i = v)) with
  | some i => dn i
  | none => -1
theorem dfn_p {g : Nat → Int32} {n : Nat} {v : Int32} : dFd g n v (dfn g n v) := by
  unfold dfn
  cases e : (List.range n).find? (fun i => decide (g i = v)) with
  | none =>
    refine Or.inr ⟨rfl, fun j hj z => ?_⟩
    have := List.find?_eq_none.mp e j (List.mem_range.mpr hj)
    simp [z] at this
  | some i =>
    have h1 := List.find?_some e
    have h2 := List.mem_range.mp (List.mem_of_find?_eq_some e)
    refine Or.inl ⟨i, h2, rfl, by simpa using h1, fun j hj z => ?_⟩
    obtain ⟨_, as, bs, h3, h4⟩ := List.find?_eq_some_iff_append.mp e
    have hl : as.length = i := by
      have h5 : (List.range n)[as.length]? = some i := by rw [h3]; simp
      rw [List.getElem?_eq_some_iff] at h5
      obtain ⟨h6, h7⟩ := h5
      simpa using h7
    have h8 : as[j]? = some j := by
      have h9 : (List.range n)[j]? = as[j]? := by rw [h3, List.getElem?_append_left (by omega)]
      rw [← h9]
      exact List.getElem?_range (by omega)
    have := h4 j (List.mem_of_getElem? h8)
    simp [z] at this
theorem dfn_e {g : Nat → Int32} {n : Nat} {v r : Int32} (h : dFd g n v r) : r = dfn g n v := dFd_1 h dfn_p
theorem dfn_c {g g' : Nat → Int32} {n : Nat} {v : Int32} (e : ∀ i, i < n → g i = g' i) : dfn g n v = dfn g' n v := dFd_1 (dFd_c e dfn_p) dfn_p
theorem dfn_r {g : Nat → Int32} {n : Nat} {v : Int32} : dfn g n v = -1 ∨ ∃ i, i < n ∧ dfn g n v = dn i := by
  rcases dfn_p (g := g) (n := n) (v := v) with ⟨i, i1, i2, _⟩ | ⟨i1, _⟩
  · exact Or.inr ⟨i, i1, i2⟩
  · exact Or.inl i1
abbrev rRes : Type := (dP × (Nat → Bool) × Nat) ⊕ (Nat × Nat)
abbrev rRes.ok (P : dP) (T : Nat → Bool) (k : Nat) : rRes := .inl (P, T, k)
abbrev rRes.bad (f pl : Nat) : rRes := .inr (f, pl)
def dP.col (P : dP) (c : Nat) (w : Int32) : dP := (P.1, P.2.1, P.2.2.1, fun a i => if a = c ∧ i = P.1 then w else P.2.2.2 a i)
def dP.sg (P : dP) (j : Nat) (w : Int32) : dP := (P.1, P.2.1, P.2.2.1, fun a i => if a = 14 ∧ i = j then w else P.2.2.2 a i)
def dP.nd (P : dP) (one other : Int32) : dP := (P.1, P.2.1 + 1, P.2.2.1, fun a i => if a = 7 ∧ i = one.toNatClampNeg then P.2.2.2 7 one.toNatClampNeg ||| (1 <<< (other &&& 31)) else P.2.2.2 a i)
def dP.sp (P : dP) (x y z : Int32) : dP := (P.1, P.2.1, P.2.2.1 + 1, fun a i => if a = 11 ∧ i = P.2.2.1 then x else if a = 12 ∧ i = P.2.2.1 then y else if a = 13 ∧ i = P.2.2.1 then z else P.2.2.2 a i)
section spec
variable (tk : Nat → dTok)
def rGo : rRes → rRes
  | .inl (P, T, k) => .ok P T (k + 1)
  | s => s
def rFl (f : Nat) : rRes → rRes
  | .inl (_, _, k) => .bad f (tk k).2.2.2.1
  | s => s
def rTk (w : Nat) : rRes → rRes
  | .inl (P, T, k) => if (tk k).1 = w then .ok P T (k + 1) else .bad 1 (tk k).2.2.2.1
  | s => s
def rNm (l m : Nat) : rRes → rRes
  | .inl (P, T, k) => if (tk k).1 = 3 then (if (tk k).2.1 < dn l ∨ dn m < (tk k).2.1 then .bad 2 (tk k).2.2.2.1 else .ok P T (k + 1)) else .bad 1 (tk k).2.2.2.1
  | s => s
def rV : rRes → Int32
  | .inl (_, _, k) => (tk k).2.1
  | _ => 0
def rRl : rRes → rRes
  | .inl (P, T, k) => if (tk k).1 = 1 then (if dfn (P.2.2.2 0) P.1 (tk k).2.1 = -1 then .bad 4 (tk k).2.2.2.1 else .ok P T k) else .bad 1 (tk k).2.2.2.1
  | s => s
def rF : rRes → Int32
  | .inl (P, _, k) => dfn (P.2.2.2 0) P.1 (tk k).2.1
  | _ => 0
def rFr : rRes → rRes
  | .inl (P, T, k) => if (tk k).1 = 1 then (if dfn (P.2.2.2 0) P.1 (tk k).2.1 = -1 then .ok P T (k + 1) else .bad 3 (tk k).2.2.2.1) else .bad 1 (tk k).2.2.2.1
  | s => s
def rIs : rRes → Bool
  | .inl (_, _, k) => decide ((tk k).1 = 2) && decide ((tk k).2.1 = 13)
  | _ => false
def rPa (s : rRes) : rRes := if rIs tk s = true then rGo s else rGo (rRl tk s)
def rPv (s : rRes) : Int32 := if rIs tk s = true then -2 else rF tk s
def rCol (c : Nat) (w : Int32) : rRes → rRes
  | .inl (P, T, k) => .ok (P.col c w) T k
  | s => s
def rEnd : rRes → rRes
  | .inl (P, T, k) => .ok (P.1 + 1, P.2.1, P.2.2.1, P.2.2.2) T k
  | s => s
def rNd (one other : Int32) : rRes → rRes
  | .inl (P, T, k) => if one = other then .bad 2 (tk k).2.2.2.1 else if ((P.2.2.2 7 one.toNatClampNeg) >>> (other &&& 31)) &&& 1 = 1 then .bad 3 (tk k).2.2.2.1 else .ok (P.nd one other) T (k + 1)
  | s => s
def rSp (x y z : Int32) : rRes → rRes
  | .inl (P, T, k) => .ok (P.sp x y z) T k
  | s => s
def rSg (j : Nat) (w : Int32) : rRes → rRes
  | .inl (P, T, k) => .ok (P.sg j w) T k
  | s => s
def rNc (c l m : Nat) (s : rRes) : rRes := rCol c (rV tk s) (rNm tk l m s)
def rRail (s : rRes) : rRes :=
  let s2 := rCol 0 (rV tk s) (rFr tk s)
  let s3 := rCol 1 (rPv tk s2) (rPa tk s2)
  rEnd (rCol 7 0 (rNc tk 6 1 99999 (rNc tk 5 0 999 (rNc tk 4 0 99 (rNc tk 3 1 9999 (rNc tk 2 1 9999 s3))))))
def rNeed (s : rRes) : rRes := let s1 := rGo (rRl tk s); rNd tk (rF tk s) (rF tk s1) (rRl tk s1)
def rStep (w : Nat) (s : rRes) : rRes :=
  if w = 2 then rSp 2 (-2) (rV tk s) (rNm tk 1 99 s) else
  let s1 := rGo (rRl tk s)
  if w = 3 then rSp 3 (rF tk s) (rV tk s1) (rNm tk 1 99 s1) else rSp (dn w) (rF tk s) 0 s1
def rNs (j l m : Nat) (s : rRes) : rRes := rSg j (rV tk s) (rNm tk l m s)
def rSett (w : Nat) (s : rRes) : rRes :=
  if w = 0 then rNs tk 0 1 999 s else if w = 1 then rNs tk 1 1 9999 s else if w = 2 then rNs tk 2 1 100 s else if w = 3 then rNs tk 3 1 9 s
  else if w = 4 then rNs tk 5 1 99 (rNs tk 4 0 9 s) else if w = 5 then rNs tk 6 1 999999 s else rNs tk 7 0 99999 s
def rBody (P : dP) (T : Nat → Bool) (k i : Nat) : rRes :=
  if i = 0 then (if P.1 = 12 then .bad 2 (tk k).2.2.2.1 else rRail tk (.ok P T (k + 1)))
  else if i = 1 then (if P.2.1 = 20 then .bad 2 (tk k).2.2.2.1 else rNeed tk (.ok P T (k + 1)))
  else if i < 6 then (if P.2.2.1 = 24 then .bad 2 (tk k).2.2.2.1 else rStep tk (i - 2) (.ok P T (k + 1)))
  else (if T i = true then .bad 3 (tk k).2.2.2.1 else rSett tk (i - 6) (.ok P (fun j => if j = i then true else T j) (k + 1)))
def rLine : rRes → rRes
  | .inl (P, T, k) => if (tk k).1 = 2 ∧ (tk k).2.1 ≠ 13 then rTk tk 4 (rBody tk P T k (tk k).2.1.toNatClampNeg) else .bad 1 (tk k).2.2.2.1
  | s => s
theorem rTk_ok {w : Nat} {P : dP} {T : Nat → Bool} {k : Nat} : rTk tk w (.ok P T k) = if (tk k).1 = w then .ok P T (k + 1) else .bad 1 (tk k).2.2.2.1 := rfl
theorem rNm_ok {l m : Nat} {P : dP} {T : Nat → Bool} {k : Nat} : rNm tk l m (.ok P T k) = if (tk k).1 = 3 then (if (tk k).2.1 < dn l ∨ dn m < (tk k).2.1 then .bad 2 (tk k).2.2.2.1 else .ok P T (k + 1)) else .bad 1 (tk k).2.2.2.1 := rfl
theorem rRl_ok {P : dP} {T : Nat → Bool} {k : Nat} : rRl tk (.ok P T k) = if (tk k).1 = 1 then (if dfn (P.2.2.2 0) P.1 (tk k).2.1 = -1 then .bad 4 (tk k).2.2.2.1 else .ok P T k) else .bad 1 (tk k).2.2.2.1 := rfl
theorem rFr_ok {P : dP} {T : Nat → Bool} {k : Nat} : rFr tk (.ok P T k) = if (tk k).1 = 1 then (if dfn (P.2.2.2 0) P.1 (tk k).2.1 = -1 then .ok P T (k + 1) else .bad 3 (tk k).2.2.2.1) else .bad 1 (tk k).2.2.2.1 := rfl
end spec
/-- what is known of the tokens -/
abbrev dTK (tk : Nat → dTok) (M : Nat) : Prop := (M ≤ 700) ∧ (∀ k, k ≤ M → (tk k).1 ≤ 5) ∧ (∀ k, k ≤ M → ((tk k).1 = 0 ↔ k = M)) ∧ (∀ k, k ≤ M → (tk k).1 = 3 → ∃ x, x ≤ 1000000 ∧ (tk k).2.1 = dn x ∧ (tk k).2.2.1 < 20000000 ∧ (x < 1000000 → (tk k).2.2.1 = x) ∧ (x = 1000000 → 1000000 ≤ (tk k).2.2.1)) ∧ (∀ k, k ≤ M → (tk k).1 = 2 → ∃ i, i < 14 ∧ (tk k).2.1 = dn i)
theorem dTK.M7 {tk : Nat → dTok} {M : Nat} (h0 : dTK tk M) : M ≤ 700 := h0.1
theorem dTK.k5 {tk : Nat → dTok} {M : Nat} (h0 : dTK tk M) : ∀ k, k ≤ M → (tk k).1 ≤ 5 := h0.2.1
theorem dTK.k0 {tk : Nat → dTok} {M : Nat} (h0 : dTK tk M) : ∀ k, k ≤ M → ((tk k).1 = 0 ↔ k = M) := h0.2.2.1
theorem dTK.v3 {tk : Nat → dTok} {M : Nat} (h0 : dTK tk M) : ∀ k, k ≤ M → (tk k).1 = 3 → ∃ x, x ≤ 1000000 ∧ (tk k).2.1 = dn x ∧ (tk k).2.2.1 < 20000000 ∧ (x < 1000000 → (tk k).2.2.1 = x) ∧ (x = 1000000 → 1000000 ≤ (tk k).2.2.1) := h0.2.2.2.1
theorem dTK.v2 {tk : Nat → dTok} {M : Nat} (h0 : dTK tk M) : ∀ k, k ≤ M → (tk k).1 = 2 → ∃ i, i < 14 ∧ (tk k).2.1 = dn i := h0.2.2.2.2
/-! the class follows -/
abbrev dCX (tk : Nat → dTok) (M q : Nat) (σ0 σ : pxS) : Prop := (q < 2) ∧ (dTK tk M) ∧ (∀ j, j ≠ (6, 0, 0) → j ≠ (1, q, 0) → (∀ a, j ≠ (8, q, a)) → σ j = σ0 j) ∧ (σ (6, 0, 0) 0 = dn q) ∧ (σ (6, 0, 0) 7 = dn (M + 1)) ∧ (∀ k, k < M + 1 → σ (12, 1, 0) k = dn (tk k).1 ∧ σ (12, 2, 0) k = (tk k).2.1 ∧ σ (12, 3, 0) k = dn (tk k).2.2.2.1)
theorem dCX.q2 {tk : Nat → dTok} {M q : Nat} {σ0 σ : pxS} (h0 : dCX tk M q σ0 σ) : q < 2 := h0.1
theorem dCX.K {tk : Nat → dTok} {M q : Nat} {σ0 σ : pxS} (h0 : dCX tk M q σ0 σ) : dTK tk M := h0.2.1
theorem dCX.fr {tk : Nat → dTok} {M q : Nat} {σ0 σ : pxS} (h0 : dCX tk M q σ0 σ) : ∀ j, j ≠ (6, 0, 0) → j ≠ (1, q, 0) → (∀ a, j ≠ (8, q, a)) → σ j = σ0 j := h0.2.2.1
theorem dCX.hq {tk : Nat → dTok} {M q : Nat} {σ0 σ : pxS} (h0 : dCX tk M q σ0 σ) : σ (6, 0, 0) 0 = dn q := h0.2.2.2.1
theorem dCX.h7 {tk : Nat → dTok} {M q : Nat} {σ0 σ : pxS} (h0 : dCX tk M q σ0 σ) : σ (6, 0, 0) 7 = dn (M + 1) := h0.2.2.2.2.1
theorem dCX.r {tk : Nat → dTok} {M q : Nat} {σ0 σ : pxS} (h0 : dCX tk M q σ0 σ) : ∀ k, k < M + 1 → σ (12, 1, 0) k = dn (tk k).1 ∧ σ (12, 2, 0) k = (tk k).2.1 ∧ σ (12, 3, 0) k = dn (tk k).2.2.2.1 := h0.2.2.2.2.2
abbrev dCO (tk : Nat → dTok) (M q n c : Nat) (P : dP) (T : Nat → Bool) (k : Nat) (σ : pxS) : Prop := (P.1 = n) ∧ (k ≤ M) ∧ (σ (6, 0, 0) 1 = 0) ∧ (σ (6, 0, 0) 13 = dn (k + 1)) ∧ (σ (6, 0, 0) 11 = dn (tk k).1) ∧ (σ (6, 0, 0) 12 = (tk k).2.1) ∧ (∀ w, w < 32 → db (σ (6, 0, 0) 14) w = T w) ∧ (σ (1, q, 0) 1 = dn P.2.1 ∧ P.2.1 ≤ 20) ∧ (σ (1, q, 0) 2 = dn P.2.2.1 ∧ P.2.2.1 ≤ 24) ∧ (∀ a i, a < 8 → (i < n ∨ (i = n ∧ a < c)) → σ (8, q, a) i = P.2.2.2 a i) ∧ (∀ a i, 11 ≤ a → a < 14 → i < P.2.2.1 → σ (8, q, a) i = P.2.2.2 a i) ∧ (∀ i, i < 8 → σ (8, q, 14) i = P.2.2.2 14 i)
theorem dCO.hn {tk : Nat → dTok} {M q n c : Nat} {P : dP} {T : Nat → Bool} {k : Nat} {σ : pxS} (h0 : dCO tk M q n c P T k σ) : P.1 = n := h0.1
theorem dCO.hk {tk : Nat → dTok} {M q n c : Nat} {P : dP} {T : Nat → Bool} {k : Nat} {σ : pxS} (h0 : dCO tk M q n c P T k σ) : k ≤ M := h0.2.1
theorem dCO.f0 {tk : Nat → dTok} {M q n c : Nat} {P : dP} {T : Nat → Bool} {k : Nat} {σ : pxS} (h0 : dCO tk M q n c P T k σ) : σ (6, 0, 0) 1 = 0 := h0.2.2.1
theorem dCO.nx {tk : Nat → dTok} {M q n c : Nat} {P : dP} {T : Nat → Bool} {k : Nat} {σ : pxS} (h0 : dCO tk M q n c P T k σ) : σ (6, 0, 0) 13 = dn (k + 1) := h0.2.2.2.1
theorem dCO.kd {tk : Nat → dTok} {M q n c : Nat} {P : dP} {T : Nat → Bool} {k : Nat} {σ : pxS} (h0 : dCO tk M q n c P T k σ) : σ (6, 0, 0) 11 = dn (tk k).1 := h0.2.2.2.2.1
theorem dCO.v {tk : Nat → dTok} {M q n c : Nat} {P : dP} {T : Nat → Bool} {k : Nat} {σ : pxS} (h0 : dCO tk M q n c P T k σ) : σ (6, 0, 0) 12 = (tk k).2.1 := h0.2.2.2.2.2.1
theorem dCO.t {tk : Nat → dTok} {M q n c : Nat} {P : dP} {T : Nat → Bool} {k : Nat} {σ : pxS} (h0 : dCO tk M q n c P T k σ) : ∀ w, w < 32 → db (σ (6, 0, 0) 14) w = T w := h0.2.2.2.2.2.2.1
theorem dCO.m {tk : Nat → dTok} {M q n c : Nat} {P : dP} {T : Nat → Bool} {k : Nat} {σ : pxS} (h0 : dCO tk M q n c P T k σ) : σ (1, q, 0) 1 = dn P.2.1 ∧ P.2.1 ≤ 20 := h0.2.2.2.2.2.2.2.1
theorem dCO.st {tk : Nat → dTok} {M q n c : Nat} {P : dP} {T : Nat → Bool} {k : Nat} {σ : pxS} (h0 : dCO tk M q n c P T k σ) : σ (1, q, 0) 2 = dn P.2.2.1 ∧ P.2.2.1 ≤ 24 := h0.2.2.2.2.2.2.2.2.1
theorem dCO.a {tk : Nat → dTok} {M q n c : Nat} {P : dP} {T : Nat → Bool} {k : Nat} {σ : pxS} (h0 : dCO tk M q n c P T k σ) : ∀ a i, a < 8 → (i < n ∨ (i = n ∧ a < c)) → σ (8, q, a) i = P.2.2.2 a i := h0.2.2.2.2.2.2.2.2.2.1
theorem dCO.s {tk : Nat → dTok} {M q n c : Nat} {P : dP} {T : Nat → Bool} {k : Nat} {σ : pxS} (h0 : dCO tk M q n c P T k σ) : ∀ a i, 11 ≤ a → a < 14 → i < P.2.2.1 → σ (8, q, a) i = P.2.2.2 a i := h0.2.2.2.2.2.2.2.2.2.2.1
theorem dCO.e {tk : Nat → dTok} {M q n c : Nat} {P : dP} {T : Nat → Bool} {k : Nat} {σ : pxS} (h0 : dCO tk M q n c P T k σ) : ∀ i, i < 8 → σ (8, q, 14) i = P.2.2.2 14 i := h0.2.2.2.2.2.2.2.2.2.2.2
def dCB (f pl : Nat) (σ : pxS) : Prop := σ (6, 0, 0) 1 = dn f ∧ (1 ≤ f ∧ f ≤ 4) ∧ σ (6, 0, 0) 2 = dn pl
def dCRs (tk : Nat → dTok) (M q n c : Nat) (σ : pxS) : rRes → Prop
  | .inl (P, T, k) => dCO tk M q n c P T k σ
  | .inr (f, pl) => dCB f pl σ
abbrev dCR (tk : Nat → dTok) (M q : Nat) (σ0 : pxS) (n c : Nat) (s : rRes) (σ : pxS) : Prop := (dCX tk M q σ0 σ) ∧ (n ≤ 12) ∧ (σ (1, q, 0) 0 = dn n) ∧ (∃ m, m ≤ 20 ∧ σ (1, q, 0) 1 = dn m) ∧ (∃ st, st ≤ 24 ∧ σ (1, q, 0) 2 = dn st) ∧ (dCRs tk M q n c σ s)
theorem dCR.X {tk : Nat → dTok} {M q : Nat} {σ0 : pxS} {n c : Nat} {s : rRes} {σ : pxS} (h0 : dCR tk M q σ0 n c s σ) : dCX tk M q σ0 σ := h0.1
theorem dCR.n12 {tk : Nat → dTok} {M q : Nat} {σ0 : pxS} {n c : Nat} {s : rRes} {σ : pxS} (h0 : dCR tk M q σ0 n c s σ) : n ≤ 12 := h0.2.1
theorem dCR.hn {tk : Nat → dTok} {M q : Nat} {σ0 : pxS} {n c : Nat} {s : rRes} {σ : pxS} (h0 : dCR tk M q σ0 n c s σ) : σ (1, q, 0) 0 = dn n := h0.2.2.1
theorem dCR.hm {tk : Nat → dTok} {M q : Nat} {σ0 : pxS} {n c : Nat} {s : rRes} {σ : pxS} (h0 : dCR tk M q σ0 n c s σ) : ∃ m, m ≤ 20 ∧ σ (1, q, 0) 1 = dn m := h0.2.2.2.1
theorem dCR.hs {tk : Nat → dTok} {M q : Nat} {σ0 : pxS} {n c : Nat} {s : rRes} {σ : pxS} (h0 : dCR tk M q σ0 n c s σ) : ∃ st, st ≤ 24 ∧ σ (1, q, 0) 2 = dn st := h0.2.2.2.2.1
theorem dCR.s {tk : Nat → dTok} {M q : Nat} {σ0 : pxS} {n c : Nat} {s : rRes} {σ : pxS} (h0 : dCR tk M q σ0 n c s σ) : dCRs tk M q n c σ s := h0.2.2.2.2.2
section H6
variable {tk : Nat → dTok} {M q n c k : Nat} {σ0 σ σ' : pxS} {s : rRes} {P : dP} {T : Nat → Bool}
theorem dCX_6 {qs : List Nat} (h : dCX tk M q σ0 σ) (g : d6 qs σ σ') (h0 : 0 ∉ qs) (h7 : 7 ∉ qs) : dCX tk M q σ0 σ' :=
  ⟨h.q2, h.K, fun j j1 j2 j3 => (g.2 j j1).trans (h.fr j j1 j2 j3), by rw [g.1 _ h0]; exact h.hq, by rw [g.1 _ h7]; exact h.h7, fun k hk => by rw [g.2 _ (by simp), g.2 _ (by simp), g.2 _ (by simp)]; exact h.r k hk⟩
theorem dCR_bad {f pl : Nat} (h : dCR tk M q σ0 n c s σ) (g : d6 [1, 2, 11, 12, 13, 14] σ σ') (hf : dCB f pl σ') : dCR tk M q σ0 n c (.bad f pl) σ' := by
  have e1 : σ' (1, q, 0) = σ (1, q, 0) := g.2 _ (by simp)
  exact ⟨dCX_6 h.X g (by simp) (by simp), h.n12, by rw [e1]; exact h.hn, by rw [e1]; exact h.hm, by rw [e1]; exact h.hs, hf⟩
theorem dCR_ok {k' : Nat} (h : dCR tk M q σ0 n c (.ok P T k) σ) (g : d6 [1, 2, 11, 12, 13] σ σ') (hk : k' ≤ M) (f0 : σ' (6, 0, 0) 1 = 0) (nx : σ' (6, 0, 0) 13 = dn (k' + 1)) (kd : σ' (6, 0, 0) 11 = dn (tk k').1) (v : σ' (6, 0, 0) 12 = (tk k').2.1) : dCR tk M q σ0 n c (.ok P T k') σ' := by
  have e1 : σ' (1, q, 0) = σ (1, q, 0) := g.2 _ (by simp)
  have e8 : ∀ a, σ' (8, q, a) = σ (8, q, a) := fun a => g.2 _ (by simp)
  have hs : dCO tk M q n c P T k σ := h.s
  refine ⟨dCX_6 h.X g (by simp) (by simp), h.n12, by rw [e1]; exact h.hn, by rw [e1]; exact h.hm, by rw [e1]; exact h.hs, ?_⟩
  exact ⟨hs.hn, hk, f0, nx, kd, v, fun w hw => by rw [g.1 _ (by simp)]; exact hs.t w hw, by rw [e1]; exact hs.m, by rw [e1]; exact hs.st, fun a i h1 h2 => by rw [e8]; exact hs.a a i h1 h2, fun a i h1 h2 h3 => by rw [e8]; exact hs.s a i h1 h2 h3, fun i hi => by rw [e8]; exact hs.e i hi⟩
theorem cAdv (h : dCR tk M q σ0 n c (.ok P T k) σ) (hk : (tk k).1 ≠ 0) : dw (F_Re_advance σ) (dCR tk M q σ0 n c (.ok P T (k + 1))) := by
  have hs : dCO tk M q n c P T k σ := h.s
  have hX := h.X
  have hM := hX.K.M7
  have hkM : k < M := by
    have := hs.hk
    have : k ≠ M := fun e => hk ((hX.K.k0 k hs.hk).mpr e)
    omega
  unfold F_Re_advance
  rw [hs.nx, hX.h7, if_neg (dn_nn (by omega)), if_neg (by rw [dn_le (by omega) (by omega)]; omega), if_neg (by rw [show (700 : Int32) = dn 700 from rfl, dn_lt (by omega) (by omega)]; omega)]
  refine dw_gi (by omega) (by omega) ?_
  rw [dn_nat (by omega), (hX.r (k + 1) (by omega)).1]
  simp only [dw_l]
  rw [show px_up σ (6, 0, 0) 11 (dn (tk (k + 1)).1) (6, 0, 0) 13 = dn (k + 1) from by rw [up_6, if_neg (by omega)]; exact hs.nx]
  refine dw_gi (by omega) (by omega) ?_
  rw [dn_nat (by omega), up_6o (by simp), (hX.r (k + 1) (by omega)).2.1]
  simp only [dw_l, dw_some]
  have e13 : px_up (px_up σ (6, 0, 0) 11 (dn (tk (k + 1)).1)) (6, 0, 0) 12 (tk (k + 1)).2.1 (6, 0, 0) 13 = dn (k + 1) := by rw [up_6, if_neg (by omega), up_6, if_neg (by omega)]; exact hs.nx
  rw [e13, dn_suc]
  exact dCR_ok h (d6_trans (d6_trans (d6_up (by simp)) (d6_up (by simp))) (d6_up (by simp))) (by omega) (by rw [up_6, if_neg (by omega), up_6, if_neg (by omega), up_6, if_neg (by omega)]; exact hs.f0) (by rw [up_6, if_pos rfl]) (by rw [up_6, if_neg (by omega), up_6, if_neg (by omega), up_6, if_pos rfl]) (by rw [up_6, if_neg (by omega), up_6, if_pos rfl])
theorem cRef {f : Nat} (h : dCR tk M q σ0 n c (.ok P T k) σ) (hf : 1 ≤ f ∧ f ≤ 4) : dw (F_Re_refuse σ (dn f)) (dCR tk M q σ0 n c (.bad f (tk k).2.2.2.1)) := by
  have hs : dCO tk M q n c P T k σ := h.s
  have hX := h.X
  have hM := hX.K.M7
  have hkM := hs.hk
  unfold F_Re_refuse
  simp only [dw_l]
  rw [show px_up σ (6, 0, 0) 1 (dn f) (6, 0, 0) 13 = dn (k + 1) from by rw [up_6, if_neg (by omega)]; exact hs.nx, if_neg (by rw [show (1 : Int32) = dn 1 from rfl, dn_lt (by omega) (by omega)]; omega), if_neg (by rw [show (701 : Int32) = dn 701 from rfl, dn_lt (by omega) (by omega)]; omega), show (1 : Int32) = dn 1 from rfl, dn_sub (by omega), Nat.add_sub_cancel]
  refine dw_gi (by omega) (by omega) ?_
  rw [dn_nat (by omega), up_6o (by simp), (hX.r k (by omega)).2.2]
  simp only [dw_l, dw_some]
  exact dCR_bad h (d6_trans (d6_up (by simp)) (d6_up (by simp))) ⟨by rw [up_6, if_neg (by omega), up_6, if_pos rfl], hf, by rw [up_6, if_pos rfl]⟩
theorem dCB_ne {f pl : Nat} (h : dCB f pl σ) : ¬ σ (6, 0, 0) 1 = 0 := by
  rw [h.1, show (0 : Int32) = dn 0 from rfl, dn_inj (by have := h.2.1; omega) (by omega)]
  have := h.2.1; omega
theorem cTake {w : Nat} (h : dCR tk M q σ0 n c s σ) (hw : w ≠ 0) (hw2 : w < 100) : dw (F_Re_take σ (dn w)) (dCR tk M q σ0 n c (rTk tk w s)) := by
  unfold F_Re_take
  cases s with
  | inr zz =>
    obtain ⟨f, pl⟩ := zz
    rw [if_neg (dCB_ne h.s)]
    exact dw_some.mpr h
  | inl zz =>
    obtain ⟨P, T, k⟩ := zz
    have hs : dCO tk M q n c P T k σ := h.s
    have k5 := h.X.K.k5 k hs.hk
    rw [rTk_ok]
    rw [if_pos hs.f0, hs.kd]
    by_cases e : (tk k).1 = w
    · rw [if_pos (by rw [e]), dw_b1, if_pos e]
      exact dw_mono (cAdv h (by omega)) fun _ h => dw_some.mpr h
    · rw [if_neg (by rw [dn_inj (by omega) (by omega)]; exact e), dw_b1, if_neg e]
      exact dw_mono (cRef (f := 1) h (by omega)) fun _ h => dw_some.mpr h
theorem cNum {l m : Nat} (h : dCR tk M q σ0 n c s σ) : dw (F_Re_number σ (dn l) (dn m)) (fun r => dCR tk M q σ0 n c (rNm tk l m s) r.2 ∧ ∀ P T k, rNm tk l m s = .ok P T k → r.1 = rV tk s) := by
  have n35 : ∀ {s' : rRes} {σ' : pxS} {v : Int32}, dCR tk M q σ0 n c s' σ' → dw (Re_number_n35 σ' v) (fun r => dCR tk M q σ0 n c (rTk tk 3 s') r.2 ∧ r.1 = v) := fun h => by
    unfold Re_number_n35
    rw [dw_b1]
    exact dw_mono (cTake (w := 3) h (by omega) (by omega)) fun _ h => dw_some.mpr ⟨h, rfl⟩
  unfold F_Re_number
  cases s with
  | inr zz =>
    obtain ⟨f, pl⟩ := zz
    rw [if_neg (dCB_ne h.s)]
    exact dw_mono (n35 h) fun r hr => ⟨hr.1, fun P T k z => by cases z⟩
  | inl zz =>
    obtain ⟨P, T, k⟩ := zz
    have hs : dCO tk M q n c P T k σ := h.s
    have k5 := h.X.K.k5 k hs.hk
    rw [if_pos hs.f0, hs.kd, hs.v]
    rw [rNm_ok]
    by_cases e : (tk k).1 = 3
    · rw [if_pos (by rw [e]; rfl), if_pos e]
      have good : ¬ ((tk k).2.1 < dn l ∨ dn m < (tk k).2.1) → dw (Re_number_n35 σ (tk k).2.1) (fun r => dCR tk M q σ0 n c (if (tk k).2.1 < dn l ∨ dn m < (tk k).2.1 then .bad 2 (tk k).2.2.2.1 else .ok P T (k + 1)) r.2 ∧ ∀ P' T' k', (if (tk k).2.1 < dn l ∨ dn m < (tk k).2.1 then rRes.bad 2 (tk k).2.2.2.1 else .ok P T (k + 1)) = .ok P' T' k' → r.1 = rV tk (.ok P T k)) := fun z => by
        rw [if_neg z]
        refine dw_mono (n35 h) fun r hr => ⟨?_, fun _ _ _ _ => hr.2⟩
        have := hr.1
        rw [rTk_ok] at this
        rw [if_pos e] at this
        exact this
      have bad : ((tk k).2.1 < dn l ∨ dn m < (tk k).2.1) → dw (Re_number_n30 σ (tk k).2.1) (fun r => dCR tk M q σ0 n c (if (tk k).2.1 < dn l ∨ dn m < (tk k).2.1 then .bad 2 (tk k).2.2.2.1 else .ok P T (k + 1)) r.2 ∧ ∀ P' T' k', (if (tk k).2.1 < dn l ∨ dn m < (tk k).2.1 then rRes.bad 2 (tk k).2.2.2.1 else .ok P T (k + 1)) = .ok P' T' k' → r.1 = rV tk (.ok P T k)) := fun z => by
        rw [if_pos z]
        unfold Re_number_n30
        rw [dw_b1]
        refine dw_mono (cRef (f := 2) h (by omega)) fun τ hτ => dw_mono (n35 hτ) fun r hr => ⟨hr.1, fun P T k z => by cases z⟩
      by_cases c1 : (tk k).2.1 < dn l
      · rw [if_pos c1]; exact bad (Or.inl c1)
      · rw [if_neg c1]
        by_cases c2 : (tk k).2.1 ≤ dn m
        · rw [if_pos c2]
          exact good fun z => z.elim c1 fun y => absurd c2 (Int32.not_le.mpr y)
        · rw [if_neg c2]
          exact bad (Or.inr (Int32.not_le.mp c2))
    · rw [if_neg (by rw [show (3 : Int32) = dn 3 from rfl, dn_inj (by omega) (by omega)]; exact e), if_neg e]
      refine dw_mono (n35 h) fun r hr => ⟨?_, fun P T k z => by cases z⟩
      have := hr.1
      rw [rTk_ok] at this
      rw [if_neg e] at this
      exact this
theorem cFind (h : dCR tk M q σ0 n c s σ) {v : Int32} : dw (F_Pl_find σ (dn q) v) (fun r => r = dfn (σ (8, q, 0)) n v) := dw_mono (dPl_find h.X.q2 h.hn h.n12) fun r hr => dfn_e hr
theorem cTold (h : dCR tk M q σ0 n c s σ) : dw (F_Re_toldRail σ) (fun r => dCR tk M q σ0 n c (rGo (rRl tk s)) r.2 ∧ ∀ P T k, rGo (rRl tk s) = .ok P T k → r.1 = rF tk s ∧ ∃ i, i < n ∧ r.1 = dn i) := by
  unfold F_Re_toldRail Re_toldRail_n36
  rw [h.X.hq, dw_b1]
  refine dw_mono (cFind h) fun r hr => ?_
  cases s with
  | inr zz =>
    obtain ⟨f, pl⟩ := zz
    rw [if_neg (dCB_ne h.s), dw_b1]
    exact dw_mono (cTake (w := 1) h (by omega) (by omega)) fun _ h => dw_some.mpr ⟨h, fun P T k z => by cases z⟩
  | inl zz =>
    obtain ⟨P, T, k⟩ := zz
    have hs : dCO tk M q n c P T k σ := h.s
    have k5 := h.X.K.k5 k hs.hk
    have hfn : dfn (σ (8, q, 0)) n (tk k).2.1 = dfn (P.2.2.2 0) P.1 (tk k).2.1 := by
      rw [hs.hn]
      exact dfn_c fun i hi => hs.a 0 i (by omega) (Or.inl hi)
    rw [hs.v, hfn] at hr
    rw [if_pos hs.f0, hs.kd]
    rw [rRl_ok]
    by_cases e : (tk k).1 = 1
    · rw [if_pos (by rw [e]; rfl), if_pos e]
      rcases dfn_r (g := P.2.2.2 0) (n := P.1) (v := (tk k).2.1) with z | ⟨i, hi, z⟩
      · rw [z] at hr
        rw [hr, if_neg (by decide), if_pos z, dw_b1]
        refine dw_mono (cRef (f := 4) h (by omega)) fun τ hτ => ?_
        rw [dw_b1]
        exact dw_mono (cTake (w := 1) hτ (by omega) (by omega)) fun _ h => dw_some.mpr ⟨h, fun P T k z => by cases z⟩
      · have hi2 := hs.hn
        have hn12 := h.n12
        have z1 : ¬ dfn (P.2.2.2 0) P.1 (tk k).2.1 = -1 := by rw [z]; exact dn_m1 (by omega)
        rw [hr, if_pos (by rw [z]; exact Int32.not_lt.mp (dn_nn (by omega))), if_neg z1, dw_b1]
        refine dw_mono (cTake (w := 1) h (by omega) (by omega)) fun τ hτ => dw_some.mpr ⟨?_, fun _ _ _ _ => ?_⟩
        · rw [rTk_ok] at hτ
          rw [if_pos e] at hτ
          exact hτ
        · show (if dfn (P.2.2.2 0) P.1 (tk k).2.1 < 0 then (0 : Int32) else dfn (P.2.2.2 0) P.1 (tk k).2.1) = _ ∧ _
          rw [z, if_neg (dn_nn (by omega))]
          exact ⟨z.symm, i, by omega, rfl⟩
    · rw [if_neg (by rw [show (1 : Int32) = dn 1 from rfl, dn_inj (by omega) (by omega)]; exact e), if_neg e, dw_b1]
      refine dw_mono (cTake (w := 1) h (by omega) (by omega)) fun τ hτ => dw_some.mpr ⟨?_, fun P T k z => by cases z⟩
      rw [rTk_ok] at hτ
      rw [if_neg e] at hτ
      exact hτ
theorem cFresh (h : dCR tk M q σ0 n c s σ) : dw (F_Re_freshName σ) (fun r => dCR tk M q σ0 n c (rFr tk s) r.2 ∧ ∀ P T k, rFr tk s = .ok P T k → r.1 = rV tk s) := by
  unfold F_Re_freshName Re_freshName_n36
  cases s with
  | inr zz =>
    obtain ⟨f, pl⟩ := zz
    rw [if_neg (dCB_ne h.s), dw_b1]
    exact dw_mono (cTake (w := 1) h (by omega) (by omega)) fun _ h => dw_some.mpr ⟨h, fun P T k z => by cases z⟩
  | inl zz =>
    obtain ⟨P, T, k⟩ := zz
    have hs : dCO tk M q n c P T k σ := h.s
    have k5 := h.X.K.k5 k hs.hk
    have hfn : dfn (σ (8, q, 0)) n (tk k).2.1 = dfn (P.2.2.2 0) P.1 (tk k).2.1 := by
      rw [hs.hn]
      exact dfn_c fun i hi => hs.a 0 i (by omega) (Or.inl hi)
    rw [if_pos hs.f0, hs.kd, hs.v]
    rw [rFr_ok]
    by_cases e : (tk k).1 = 1
    · rw [if_pos (by rw [e]; rfl), if_pos e, h.X.hq, dw_b1]
      refine dw_mono (cFind h) fun r hr => ?_
      rw [hfn] at hr
      rcases dfn_r (g := P.2.2.2 0) (n := P.1) (v := (tk k).2.1) with z | ⟨i, hi, z⟩
      · rw [hr, z, if_pos (by decide), if_pos rfl, dw_b1]
        refine dw_mono (cTake (w := 1) h (by omega) (by omega)) fun τ hτ => dw_some.mpr ⟨?_, fun _ _ _ _ => rfl⟩
        rw [rTk_ok] at hτ
        rw [if_pos e] at hτ
        exact hτ
      · have hi2 := hs.hn
        have hn12 := h.n12
        rw [hr, z, if_neg (dn_nn (by omega)), if_neg (dn_m1 (by omega)), dw_b1]
        refine dw_mono (cRef (f := 3) h (by omega)) fun τ hτ => ?_
        rw [dw_b1]
        exact dw_mono (cTake (w := 1) hτ (by omega) (by omega)) fun _ h => dw_some.mpr ⟨h, fun P T k z => by cases z⟩
    · rw [if_neg (by rw [show (1 : Int32) = dn 1 from rfl, dn_inj (by omega) (by omega)]; exact e), if_neg e, dw_b1]
      refine dw_mono (cTake (w := 1) h (by omega) (by omega)) fun τ hτ => dw_some.mpr ⟨?_, fun P T k z => by cases z⟩
      rw [rTk_ok] at hτ
      rw [if_neg e] at hτ
      exact hτ
end H6
end
section
/-! the class: a rail's line -/
section H7
variable {tk : Nat → dTok} {M q n c k : Nat} {σ0 σ σ' : pxS} {s : rRes} {P : dP} {T : Nat → Bool}
theorem rGo_bad {f pl : Nat} : rGo (.bad f pl) = .bad f pl := rfl
theorem cPar (h : dCR tk M q σ0 n c s σ) : dw (F_Re_parentOrSource σ) (fun r => dCR tk M q σ0 n c (rPa tk s) r.2 ∧ ∀ P T k, rPa tk s = .ok P T k → r.1 = rPv tk s) := by
  have told : rIs tk s = false → dw (Re_parentOrSource_n25 σ) (fun r => dCR tk M q σ0 n c (rPa tk s) r.2 ∧ ∀ P T k, rPa tk s = .ok P T k → r.1 = rPv tk s) := fun z => by
    unfold Re_parentOrSource_n25 rPa rPv
    rw [z, dw_b2, if_neg (by decide), if_neg (by decide)]
    exact dw_mono (cTold h) fun r hr => dw_some.mpr ⟨hr.1, fun P T k e => (hr.2 P T k e).1⟩
  have src : (∀ P T k, s = .ok P T k → (tk k).1 = 2 ∧ (tk k).2.1 = 13) → dw (px_b1 (F_Re_take σ 2) fun σ2 => some ((-2), σ2)) (fun r => dCR tk M q σ0 n c (rPa tk s) r.2 ∧ ∀ P T k, rPa tk s = .ok P T k → r.1 = rPv tk s) := fun z => by
    rw [dw_b1]
    refine dw_mono (cTake (w := 2) h (by omega) (by omega)) fun τ hτ => dw_some.mpr ?_
    cases s with
    | inr zz =>
      obtain ⟨f, pl⟩ := zz
      exact ⟨hτ, fun P T k e => by cases e⟩
    | inl zz =>
      obtain ⟨P, T, k⟩ := zz
      obtain ⟨z1, z2⟩ := z P T k rfl
      rw [rTk_ok, if_pos z1] at hτ
      have : rIs tk (.ok P T k) = true := by unfold rIs; simp [z1, z2]
      unfold rPa rPv
      rw [this, if_pos rfl, if_pos rfl]
      exact ⟨hτ, fun _ _ _ _ => rfl⟩
  unfold F_Re_parentOrSource
  cases s with
  | inr zz =>
    obtain ⟨f, pl⟩ := zz
    by_cases c1 : σ (6, 0, 0) 11 = 2
    · rw [if_pos c1]
      by_cases c2 : σ (6, 0, 0) 12 = 13
      · rw [if_pos c2]; exact src fun P T k e => by cases e
      · rw [if_neg c2]; exact told rfl
    · rw [if_neg c1]; exact told rfl
  | inl zz =>
    obtain ⟨P, T, k⟩ := zz
    have hs : dCO tk M q n c P T k σ := h.s
    have k5 := h.X.K.k5 k hs.hk
    rw [hs.kd, hs.v]
    by_cases c1 : (tk k).1 = 2
    · rw [if_pos (by rw [c1]; rfl)]
      by_cases c2 : (tk k).2.1 = 13
      · rw [if_pos c2]
        refine src fun P' T' k' e => ?_
        cases e
        exact ⟨c1, c2⟩
      · rw [if_neg c2]; exact told (by unfold rIs; simp [c2])
    · rw [if_neg (by rw [show (2 : Int32) = dn 2 from rfl, dn_inj (by omega) (by omega)]; exact c1)]
      exact told (by unfold rIs; simp [c1])
theorem dCX_8 {a i : Nat} {v : Int32} (h : dCX tk M q σ0 σ) : dCX tk M q σ0 (px_up σ (8, q, a) i v) := by
  have e : ∀ j : pxI, j ≠ (8, q, a) → px_up σ (8, q, a) i v j = σ j := fun j hj => by funext x; simp [px_up, hj]
  exact ⟨h.q2, h.K, fun j j1 j2 j3 => (e j (j3 a)).trans (h.fr j j1 j2 j3), by rw [e _ (by simp)]; exact h.hq, by rw [e _ (by simp)]; exact h.h7, fun k hk => by rw [e _ (by simp), e _ (by simp), e _ (by simp)]; exact h.r k hk⟩
theorem dCX_1 {i : Nat} {v : Int32} (h : dCX tk M q σ0 σ) : dCX tk M q σ0 (px_up σ (1, q, 0) i v) := by
  have e : ∀ j : pxI, j ≠ (1, q, 0) → px_up σ (1, q, 0) i v j = σ j := fun j hj => by funext x; simp [px_up, hj]
  exact ⟨h.q2, h.K, fun j j1 j2 j3 => (e j j2).trans (h.fr j j1 j2 j3), by rw [e _ (by simp)]; exact h.hq, by rw [e _ (by simp)]; exact h.h7, fun k hk => by rw [e _ (by simp), e _ (by simp), e _ (by simp)]; exact h.r k hk⟩
theorem up_8o {a i : Nat} {v : Int32} {j : pxI} (hj : j ≠ (8, q, a)) : px_up σ (8, q, a) i v j = σ j := by funext x; simp [px_up, hj]
theorem up_1o {i : Nat} {v : Int32} {j : pxI} (hj : j ≠ (1, q, 0)) : px_up σ (1, q, 0) i v j = σ j := by funext x; simp [px_up, hj]
theorem up_s {j j' : pxI} {i x : Nat} {v : Int32} : px_up σ j i v j' x = if j' = j ∧ x = i then v else σ j' x := rfl
theorem cCol {v w : Int32} (h : dCR tk M q σ0 n c s σ) (hc : c < 8) (hv : ∀ P T k, s = .ok P T k → v = w) : dCR tk M q σ0 n (c + 1) (rCol c w s) (px_up σ (8, q, c) n v) := by
  refine ⟨dCX_8 h.X, h.n12, by rw [up_8o (by simp)]; exact h.hn, by rw [up_8o (by simp)]; exact h.hm, by rw [up_8o (by simp)]; exact h.hs, ?_⟩
  cases s with
  | inr zz =>
    obtain ⟨f, pl⟩ := zz
    have hs : dCB f pl σ := h.s
    exact ⟨by rw [up_8o (by simp)]; exact hs.1, hs.2.1, by rw [up_8o (by simp)]; exact hs.2.2⟩
  | inl zz =>
    obtain ⟨P, T, k⟩ := zz
    have hs : dCO tk M q n c P T k σ := h.s
    have hPn := hs.hn
    rw [hv P T k rfl]
    refine ⟨hPn, hs.hk, by rw [up_8o (by simp)]; exact hs.f0, by rw [up_8o (by simp)]; exact hs.nx, by rw [up_8o (by simp)]; exact hs.kd, by rw [up_8o (by simp)]; exact hs.v, by rw [up_8o (by simp)]; exact hs.t, by rw [up_8o (by simp)]; exact hs.m, by rw [up_8o (by simp)]; exact hs.st, fun a i ha hi => ?_, fun a i h1 h2 h3 => ?_, fun i hi => ?_⟩
    · rw [up_s]
      show _ = if a = c ∧ i = P.1 then w else P.2.2.2 a i
      by_cases e : a = c ∧ i = n
      · rw [if_pos ⟨by rw [e.1], e.2⟩, if_pos ⟨e.1, by omega⟩]
      · rw [if_neg (fun z => e ⟨by simpa using z.1, z.2⟩), if_neg (fun z => e ⟨z.1, by omega⟩)]
        exact hs.a a i ha (by omega)
    · rw [up_8o (by simp; omega)]
      show _ = if a = c ∧ i = P.1 then w else P.2.2.2 a i
      rw [if_neg (by omega)]
      exact hs.s a i h1 h2 h3
    · rw [up_8o (by simp; omega)]
      show _ = if 14 = c ∧ i = P.1 then w else P.2.2.2 14 i
      rw [if_neg (by omega)]
      exact hs.e i hi
theorem cEnd (h : dCR tk M q σ0 n 8 s σ) (hn : n < 12) : dCR tk M q σ0 (n + 1) 0 (rEnd s) (px_up σ (1, q, 0) 0 (dn n + 1)) := by
  refine ⟨dCX_1 h.X, by omega, by rw [up_s, if_pos ⟨rfl, rfl⟩, dn_suc], by rw [up_s, if_neg (by omega)]; exact h.hm, by rw [up_s, if_neg (by omega)]; exact h.hs, ?_⟩
  cases s with
  | inr zz =>
    obtain ⟨f, pl⟩ := zz
    have hs : dCB f pl σ := h.s
    exact ⟨by rw [up_1o (by simp)]; exact hs.1, hs.2.1, by rw [up_1o (by simp)]; exact hs.2.2⟩
  | inl zz =>
    obtain ⟨P, T, k⟩ := zz
    have hs : dCO tk M q n 8 P T k σ := h.s
    have hPn := hs.hn
    refine ⟨by show P.1 + 1 = n + 1; omega, hs.hk, by rw [up_1o (by simp)]; exact hs.f0, by rw [up_1o (by simp)]; exact hs.nx, by rw [up_1o (by simp)]; exact hs.kd, by rw [up_1o (by simp)]; exact hs.v, by rw [up_1o (by simp)]; exact hs.t, by rw [up_s, if_neg (by omega)]; exact hs.m, by rw [up_s, if_neg (by omega)]; exact hs.st, fun a i ha hi => by rw [up_1o (by simp)]; exact hs.a a i ha (by omega), fun a i h1 h2 h3 => by rw [up_1o (by simp)]; exact hs.s a i h1 h2 h3, fun i hi => by rw [up_1o (by simp)]; exact hs.e i hi⟩
/-- a number, laid into a column -/
theorem cNumCol {l m : Nat} {Q : pxS → Prop} {f : pxS → Option pxS} (h : dCR tk M q σ0 n c s σ) (hc : c < 8) (hn : n < 12) (hf : ∀ τ, dCR tk M q σ0 n (c + 1) (rNc tk c l m s) τ → dw (f τ) Q) : dw (px_b2 (F_Re_number σ (dn l) (dn m)) fun r8 σ8 => px_gd (dn n) 12 (px_l (px_up σ8 (8, (σ (6, 0, 0) 0).toNatClampNeg, c) n r8) f)) Q := by
  rw [dw_b2]
  refine dw_mono (cNum h) fun r hr => dw_gi (by omega) (by omega) ?_
  rw [h.X.hq, dn_nat (by have := h.X.q2; omega)]
  exact hf _ (cCol hr.1 hc hr.2)
theorem cRail {P : dP} (h : dCR tk M q σ0 n 0 (.ok P T k) σ) (hk : (tk k).1 ≠ 0) : dw (F_Re_readRail σ) (fun τ => ∃ n', dCR tk M q σ0 n' 0 (if P.1 = 12 then .bad 2 (tk k).2.2.2.1 else rRail tk (.ok P T (k + 1))) τ) := by
  have hs : dCO tk M q n 0 P T k σ := h.s
  have hn12 := h.n12
  have hq2 := h.X.q2
  have hPn := hs.hn
  unfold F_Re_readRail
  rw [h.X.hq, dn_nat (show q < 2147483648 by omega), h.hn]
  by_cases c : n = 12
  · rw [if_neg (by rw [show (12 : Int32) = dn 12 from rfl, dn_lt (by omega) (by omega)]; omega), if_pos (by omega), dw_b1]
    exact dw_mono (cRef (f := 2) h (by omega)) fun τ hτ => dw_some.mpr ⟨n, hτ⟩
  · rw [if_pos (by rw [show (12 : Int32) = dn 12 from rfl, dn_lt (by omega) (by omega)]; omega), if_neg (by omega), dw_b1]
    refine dw_mono (cAdv h hk) fun σ1 h1 => ?_
    rw [dw_b2]
    refine dw_mono (cFresh h1) fun r2 hr2 => dw_gi (by omega) (by omega) ?_
    rw [h1.X.hq, dn_nat (show q < 2147483648 by omega), dn_nat (show n < 2147483648 by omega)]
    have h4 := cCol hr2.1 (by omega) hr2.2
    rw [dw_l]
    generalize px_up r2.2 (8, q, 0) n r2.1 = σ4 at h4 ⊢
    rw [dw_b2]
    refine dw_mono (cPar h4) fun r5 hr5 => dw_gi (by omega) (by omega) ?_
    rw [h4.X.hq, dn_nat (show q < 2147483648 by omega)]
    have h7 := cCol hr5.1 (by omega) hr5.2
    rw [dw_l]
    generalize px_up r5.2 (8, q, 1) n r5.1 = σ7 at h7 ⊢
    refine cNumCol (l := 1) (m := 9999) h7 (by omega) (by omega) fun σ10 h10 => ?_
    refine cNumCol (l := 1) (m := 9999) h10 (by omega) (by omega) fun σ13 h13 => ?_
    refine cNumCol (l := 0) (m := 99) h13 (by omega) (by omega) fun σ16 h16 => ?_
    refine cNumCol (l := 0) (m := 999) h16 (by omega) (by omega) fun σ19 h19 => ?_
    refine cNumCol (l := 1) (m := 99999) h19 (by omega) (by omega) fun σ22 h22 => dw_gi (by omega) (by omega) ?_
    rw [h22.X.hq, dn_nat (show q < 2147483648 by omega)]
    have h24 := cCol (v := 0) (w := 0) h22 (by omega) fun _ _ _ _ => rfl
    rw [dw_l]
    generalize px_up σ22 (8, q, 7) n 0 = σ24 at h24 ⊢
    rw [dw_l, dw_some, h24.X.hq, dn_nat (show q < 2147483648 by omega), h24.hn]
    exact ⟨n + 1, cEnd h24 (by omega)⟩
end H7
end
section
/-! the class: needs, steps, settings, lines -/
section H8
variable {tk : Nat → dTok} {M q n c k : Nat} {σ0 σ σ' : pxS} {s : rRes} {P : dP} {T : Nat → Bool}
theorem rTold_c (_ : True) : ((tk k).1 = 1 ∧ ∃ i, i < P.1 ∧ dfn (P.2.2.2 0) P.1 (tk k).2.1 = dn i ∧ rRl tk (.ok P T k) = .ok P T k) ∨ ∃ f, (1 ≤ f ∧ f ≤ 4) ∧ rRl tk (.ok P T k) = .bad f (tk k).2.2.2.1 := by
  rw [rRl_ok]
  by_cases e : (tk k).1 = 1
  · rw [if_pos e]
    rcases dfn_r (g := P.2.2.2 0) (n := P.1) (v := (tk k).2.1) with z | ⟨i, hi, z⟩
    · rw [if_pos z]; exact Or.inr ⟨4, by omega, rfl⟩
    · by_cases z1 : dfn (P.2.2.2 0) P.1 (tk k).2.1 = -1
      · rw [if_pos z1]; exact Or.inr ⟨4, by omega, rfl⟩
      · rw [if_neg z1]; exact Or.inl ⟨e, i, hi, z, rfl⟩
  · rw [if_neg e]; exact Or.inr ⟨1, by omega, rfl⟩
theorem up_8s {a a' i x : Nat} {v : Int32} : px_up σ (8, q, a) i v (8, q, a') x = if a' = a ∧ x = i then v else σ (8, q, a') x := by
  by_cases e : a' = a ∧ x = i
  · obtain ⟨rfl, rfl⟩ := e; simp [px_up]
  · rw [if_neg e, up_s, if_neg (fun z => e ⟨by simpa using z.1, z.2⟩)]
theorem cNdB {f pl i : Nat} {v : Int32} (h : dCR tk M q σ0 n c (.bad f pl) σ) (hi : i < n) : dw (F_Pl_addNeed σ (dn q) (dn i) v) (dCR tk M q σ0 n c (.bad f pl)) := by
  have hs : dCB f pl σ := h.s
  have hn := h.n12
  have hq := h.X.q2
  obtain ⟨m, m1, m2⟩ := h.hm
  unfold F_Pl_addNeed
  rw [if_neg (dn_nn (by omega)), dn_nat (show q < 2147483648 by omega), h.hn, if_neg (by rw [dn_le (by omega) (by omega)]; omega), m2]
  by_cases c : 20 ≤ m
  · rw [if_pos (by rw [show (20 : Int32) = dn 20 from rfl, dn_le (by omega) (by omega)]; exact c)]; exact dw_some.mpr h
  · rw [if_neg (by rw [show (20 : Int32) = dn 20 from rfl, dn_le (by omega) (by omega)]; exact c)]
    refine dw_gi (by omega) (by omega) (dw_gi (by omega) (by omega) ?_)
    rw [dw_l, dw_l, dw_some, up_8o (by simp), m2, dn_suc]
    refine ⟨dCX_1 (dCX_8 h.X), hn, by rw [up_s, if_neg (by omega), up_8o (by simp)]; exact h.hn, ⟨m + 1, by omega, by rw [up_s, if_pos ⟨rfl, rfl⟩]⟩, by rw [up_s, if_neg (by omega), up_8o (by simp)]; exact h.hs, ?_⟩
    exact ⟨by rw [up_1o (by simp), up_8o (by simp)]; exact hs.1, hs.2.1, by rw [up_1o (by simp), up_8o (by simp)]; exact hs.2.2⟩
theorem cNdO {i : Nat} {v : Int32} (h : dCR tk M q σ0 n 0 (.ok P T k) σ) (hi : i < n) (hm : P.2.1 < 20) : dw (F_Pl_addNeed σ (dn q) (dn i) v) (dCR tk M q σ0 n 0 (.ok (P.nd (dn i) v) T k)) := by
  have hs : dCO tk M q n 0 P T k σ := h.s
  have hn := h.n12
  have hq := h.X.q2
  have hPn := hs.hn
  have hnat : (dn i).toNatClampNeg = i := dn_nat (by omega)
  unfold F_Pl_addNeed
  rw [if_neg (dn_nn (by omega)), dn_nat (show q < 2147483648 by omega), h.hn, if_neg (by rw [dn_le (by omega) (by omega)]; omega), hs.m.1, if_neg (by rw [show (20 : Int32) = dn 20 from rfl, dn_le (by omega) (by omega)]; omega)]
  refine dw_gi (by omega) (by omega) (dw_gi (by omega) (by omega) ?_)
  rw [dw_l, dw_l, dw_some, up_8o (by simp), hs.m.1, dn_suc, hnat, hs.a 7 i (by omega) (Or.inl hi)]
  refine ⟨dCX_1 (dCX_8 h.X), hn, by rw [up_s, if_neg (by omega), up_8o (by simp)]; exact h.hn, ⟨P.2.1 + 1, by omega, by rw [up_s, if_pos ⟨rfl, rfl⟩]⟩, by rw [up_s, if_neg (by omega), up_8o (by simp)]; exact h.hs, ?_⟩
  refine ⟨hPn, hs.hk, by rw [up_1o (by simp), up_8o (by simp)]; exact hs.f0, by rw [up_1o (by simp), up_8o (by simp)]; exact hs.nx, by rw [up_1o (by simp), up_8o (by simp)]; exact hs.kd, by rw [up_1o (by simp), up_8o (by simp)]; exact hs.v, by rw [up_1o (by simp), up_8o (by simp)]; exact hs.t, ⟨by rw [up_s, if_pos ⟨rfl, rfl⟩]; rfl, by show P.2.1 + 1 ≤ 20; omega⟩, by rw [up_s, if_neg (by omega), up_8o (by simp)]; exact hs.st, fun a x ha hx => ?_, fun a x h1 h2 h3 => ?_, fun x hx => ?_⟩
  · rw [up_1o (by simp), up_8s]
    show _ = if a = 7 ∧ x = (dn i).toNatClampNeg then P.2.2.2 7 (dn i).toNatClampNeg ||| (1 <<< (v &&& 31)) else P.2.2.2 a x
    rw [hnat]
    by_cases e : a = 7 ∧ x = i
    · rw [if_pos e, if_pos e]
    · rw [if_neg e, if_neg e]; exact hs.a a x ha hx
  · rw [up_1o (by simp), up_8s, if_neg (by omega)]
    show _ = if a = 7 ∧ x = (dn i).toNatClampNeg then P.2.2.2 7 (dn i).toNatClampNeg ||| (1 <<< (v &&& 31)) else P.2.2.2 a x
    rw [if_neg (by omega)]; exact hs.s a x h1 h2 h3
  · rw [up_1o (by simp), up_8s, if_neg (by omega)]
    show _ = if 14 = 7 ∧ x = (dn i).toNatClampNeg then P.2.2.2 7 (dn i).toNatClampNeg ||| (1 <<< (v &&& 31)) else P.2.2.2 14 x
    rw [if_neg (by omega)]; exact hs.e x hx
theorem cN100 {i : Nat} {f pl : Nat} (h : dCR tk M q σ0 n 0 s σ) (hi : i < n) (hb : rGo (rRl tk s) = .bad f pl) : dw (Re_readNeed_n100 σ (dn i)) (dCR tk M q σ0 n 0 (.bad f pl)) := by
  unfold Re_readNeed_n100
  rw [dw_b2]
  refine dw_mono (cTold h) fun r hr => ?_
  rw [hb] at hr
  rw [h.X.hq, dw_b1]
  exact dw_mono (cNdB hr.1 hi) fun _ h => dw_some.mpr h
theorem cNeed {P : dP} (h : dCR tk M q σ0 n 0 (.ok P T k) σ) (hk : (tk k).1 ≠ 0) : dw (F_Re_readNeed σ) (fun τ => ∃ n', dCR tk M q σ0 n' 0 (if P.2.1 = 20 then .bad 2 (tk k).2.2.2.1 else rNeed tk (.ok P T (k + 1))) τ) := by
  have hs : dCO tk M q n 0 P T k σ := h.s
  have hn12 := h.n12
  have hq2 := h.X.q2
  have hPn := hs.hn
  have hm20 := hs.m.2
  refine dw_mono (P := dCR tk M q σ0 n 0 (if P.2.1 = 20 then .bad 2 (tk k).2.2.2.1 else rNeed tk (.ok P T (k + 1)))) ?_ fun _ h => ⟨n, h⟩
  unfold F_Re_readNeed
  rw [h.X.hq, dn_nat (show q < 2147483648 by omega), hs.m.1]
  by_cases c : P.2.1 = 20
  · rw [if_neg (by rw [show (20 : Int32) = dn 20 from rfl, dn_lt (by omega) (by omega)]; omega), if_pos (by omega), dw_b1]
    exact dw_mono (cRef (f := 2) h (by omega)) fun τ hτ => dw_some.mpr hτ
  · rw [if_pos (by rw [show (20 : Int32) = dn 20 from rfl, dn_lt (by omega) (by omega)]; omega), if_neg (by omega), dw_b1]
    refine dw_mono (cAdv h hk) fun σ1 h1 => ?_
    rw [dw_b2]
    refine dw_mono (cTold h1) fun r2 ⟨g1, g2⟩ => ?_
    unfold rNeed
    rcases rTold_c (tk := tk) (k := k + 1) (P := P) (T := T) trivial with ⟨c1, i, hi, e1, e2⟩ | ⟨f, hf, e2⟩
    · rw [e2] at g1 g2
      rw [e2]
      obtain ⟨g3, _⟩ := g2 P T (k + 2) rfl
      have g4 : r2.1 = dn i := g3.trans e1
      have h2 : dCR tk M q σ0 n 0 (.ok P T (k + 2)) r2.2 := g1
      have hs2 : dCO tk M q n 0 P T (k + 2) r2.2 := h2.s
      have k5 := h2.X.K.k5 (k + 2) hs2.hk
      show dw _ (dCR tk M q σ0 n 0 (rNd tk (rF tk (.ok P T (k + 1))) (rF tk (.ok P T (k + 2))) (rRl tk (.ok P T (k + 2)))))
      have e3 : rF tk (.ok P T (k + 1)) = dn i := e1
      rw [e3, if_pos hs2.f0, hs2.kd, hs2.v, g4]
      by_cases c2 : (tk (k + 2)).1 = 1
      · rw [if_pos (by rw [c2]; rfl), h2.X.hq, dw_b1]
        refine dw_mono (cFind h2) fun r hr => ?_
        have hfn : dfn (r2.2 (8, q, 0)) n (tk (k + 2)).2.1 = dfn (P.2.2.2 0) P.1 (tk (k + 2)).2.1 := by
          rw [hs2.hn]
          exact dfn_c fun i hi => hs2.a 0 i (by omega) (Or.inl hi)
        rw [hfn] at hr
        have e4 : rF tk (.ok P T (k + 2)) = dfn (P.2.2.2 0) P.1 (tk (k + 2)).2.1 := rfl
        rw [hr, e4]
        rcases dfn_r (g := P.2.2.2 0) (n := P.1) (v := (tk (k + 2)).2.1) with z | ⟨j, hj, z⟩
        · have e5 : rRl tk (.ok P T (k + 2)) = .bad 4 (tk (k + 2)).2.2.2.1 := by rw [rRl_ok, if_pos c2, if_pos z]
          rw [z, if_neg (fun z => dn_m1 (show i < 2147483648 by omega) z.symm), if_pos (by decide), e5]
          exact cN100 h2 (by omega) (by rw [e5]; rfl)
        · have z1 : ¬ dfn (P.2.2.2 0) P.1 (tk (k + 2)).2.1 = -1 := by rw [z]; exact dn_m1 (by omega)
          have e5 : rRl tk (.ok P T (k + 2)) = .ok P T (k + 2) := by rw [rRl_ok, if_pos c2, if_neg z1]
          rw [z, e5]
          show dw _ (dCR tk M q σ0 n 0 (if dn i = dn j then .bad 2 (tk (k + 2)).2.2.2.1 else if ((P.2.2.2 7 (dn i).toNatClampNeg) >>> (dn j &&& 31)) &&& 1 = 1 then .bad 3 (tk (k + 2)).2.2.2.1 else .ok (P.nd (dn i) (dn j)) T (k + 3)))
          by_cases c3 : i = j
          · rw [if_pos (by rw [c3]), if_pos (by rw [c3]), dw_b1]
            exact dw_mono (cRef (f := 2) h2 (by omega)) fun τ hτ => dw_some.mpr hτ
          · rw [if_neg (by rw [dn_inj (by omega) (by omega)]; omega), if_neg (show ¬ dn i = dn j by rw [dn_inj (by omega) (by omega)]; omega), if_neg (dn_nn (by omega))]
            refine dw_gi (by omega) (by omega) ?_
            rw [dn_nat (show q < 2147483648 by omega), dn_nat (show i < 2147483648 by omega), hs2.a 7 i (by omega) (Or.inl (by omega))]
            by_cases c4 : db (P.2.2.2 7 i) j = true
            · rw [if_neg (by rw [db_sh0 (by omega), c4]; decide), if_pos ((db_sh1 (by omega)).mpr c4), dw_b1]
              exact dw_mono (cRef (f := 3) h2 (by omega)) fun τ hτ => dw_some.mpr hτ
            · rw [if_pos ((db_sh0 (by omega)).mpr (by simpa using c4)), if_neg (fun z => c4 ((db_sh1 (by omega)).mp z))]
              unfold Re_readNeed_n100
              rw [dw_b2]
              refine dw_mono (cTold h2) fun r3 ⟨q1, q2⟩ => ?_
              rw [e5] at q1 q2
              obtain ⟨q3, _⟩ := q2 P T (k + 3) rfl
              have q4 : r3.1 = dn j := q3.trans z
              rw [h2.X.hq, dw_b1, q4]
              have h3 : dCR tk M q σ0 n 0 (.ok P T (k + 3)) r3.2 := q1
              exact dw_mono (cNdO h3 (by omega) (by omega)) fun _ h => dw_some.mpr h
      · have e5 : rRl tk (.ok P T (k + 2)) = .bad 1 (tk (k + 2)).2.2.2.1 := by rw [rRl_ok, if_neg c2]
        rw [if_neg (by rw [show (1 : Int32) = dn 1 from rfl, dn_inj (by omega) (by omega)]; exact c2), if_neg (fun z => dn_m1 (show i < 2147483648 by omega) z.symm), e5]
        exact cN100 h2 (by omega) (by rw [e5]; rfl)
    · rw [e2] at g1
      rw [e2]
      have h2 : dCR tk M q σ0 n 0 (.bad f (tk (k + 1)).2.2.2.1) r2.2 := g1
      rw [if_neg (dCB_ne h2.s)]
      exact dw_some.mpr h2
end H8
end
section
/-! the class: steps, settings, a line -/
section H9
variable {tk : Nat → dTok} {M q n c k : Nat} {σ0 σ σ' : pxS} {s : rRes} {P : dP} {T : Nat → Bool}
theorem cSp {x y z x' y' z' : Int32} (h : dCR tk M q σ0 n 0 s σ) (hv : ∀ P T k, s = .ok P T k → P.2.2.1 < 24 ∧ x = x' ∧ y = y' ∧ z = z') : dw (F_Pl_addStep σ (dn q) x y z) (dCR tk M q σ0 n 0 (rSp x' y' z' s)) := by
  have hq := h.X.q2
  obtain ⟨st, s1, s2⟩ := h.hs
  unfold F_Pl_addStep
  rw [dn_nat (show q < 2147483648 by omega), s2]
  by_cases c : 24 ≤ st
  · rw [if_pos (by rw [show (24 : Int32) = dn 24 from rfl, dn_le (by omega) (by omega)]; exact c)]
    refine dw_some.mpr ?_
    cases s with
    | inr zz =>
      obtain ⟨f, pl⟩ := zz
      exact h
    | inl zz =>
      obtain ⟨P, T, k⟩ := zz
      have hs : dCO tk M q n 0 P T k σ := h.s
      have := (hv P T k rfl).1
      have := hs.st.1.symm.trans s2
      rw [dn_inj (by omega) (by omega)] at this
      omega
  · rw [if_neg (by rw [show (24 : Int32) = dn 24 from rfl, dn_le (by omega) (by omega)]; exact c)]
    refine dw_gi (by omega) (by omega) ?_
    rw [dw_l, up_8o (by simp), s2]
    refine dw_gi (by omega) (by omega) ?_
    rw [dw_l, up_8o (by simp), up_8o (by simp), s2]
    refine dw_gi (by omega) (by omega) ?_
    rw [dw_l, dw_l, dw_some, up_8o (by simp), up_8o (by simp), up_8o (by simp), s2, dn_suc, dn_nat (show st < 2147483648 by omega)]
    generalize hτ : px_up (px_up (px_up σ (8, q, 11) st x) (8, q, 12) st y) (8, q, 13) st z = τ
    have k8 : ∀ j : pxI, (∀ a, j ≠ (8, q, a)) → τ j = σ j := fun j hj => by rw [← hτ, up_8o (hj _), up_8o (hj _), up_8o (hj _)]
    have k9 : ∀ a i, τ (8, q, a) i = if a = 11 ∧ i = st then x else if a = 12 ∧ i = st then y else if a = 13 ∧ i = st then z else σ (8, q, a) i := fun a i => by
      rw [← hτ, up_8s, up_8s, up_8s]
      by_cases c1 : a = 11 ∧ i = st
      · rw [if_pos c1, if_neg (by omega), if_neg (by omega), if_pos c1]
      · rw [if_neg c1, if_neg c1]
        by_cases c2 : a = 12 ∧ i = st
        · rw [if_pos c2, if_neg (by omega), if_pos c2]
        · rw [if_neg c2, if_neg c2]
    have kX : dCX tk M q σ0 τ := by rw [← hτ]; exact dCX_8 (dCX_8 (dCX_8 h.X))
    refine ⟨dCX_1 kX, h.n12, by rw [up_s, if_neg (by omega), k8 _ (by simp)]; exact h.hn, by rw [up_s, if_neg (by omega), k8 _ (by simp)]; exact h.hm, ⟨st + 1, by omega, by rw [up_s, if_pos ⟨rfl, rfl⟩]⟩, ?_⟩
    cases s with
    | inr zz =>
      obtain ⟨f, pl⟩ := zz
      have hs : dCB f pl σ := h.s
      exact ⟨by rw [up_1o (by simp), k8 _ (by simp)]; exact hs.1, hs.2.1, by rw [up_1o (by simp), k8 _ (by simp)]; exact hs.2.2⟩
    | inl zz =>
      obtain ⟨P, T, k⟩ := zz
      have hs : dCO tk M q n 0 P T k σ := h.s
      obtain ⟨w1, rfl, rfl, rfl⟩ := hv P T k rfl
      have e := hs.st.1.symm.trans s2
      rw [dn_inj (by omega) (by omega)] at e
      subst e
      refine ⟨hs.hn, hs.hk, by rw [up_1o (by simp), k8 _ (by simp)]; exact hs.f0, by rw [up_1o (by simp), k8 _ (by simp)]; exact hs.nx, by rw [up_1o (by simp), k8 _ (by simp)]; exact hs.kd, by rw [up_1o (by simp), k8 _ (by simp)]; exact hs.v, by rw [up_1o (by simp), k8 _ (by simp)]; exact hs.t, by rw [up_s, if_neg (by omega), k8 _ (by simp)]; exact hs.m, ⟨by rw [up_s, if_pos ⟨rfl, rfl⟩]; rfl, by show P.2.2.1 + 1 ≤ 24; omega⟩, fun a i ha hi => ?_, fun a i h1 h2 h3 => ?_, fun i hi => ?_⟩
      · rw [up_1o (by simp), k9, if_neg (by omega), if_neg (by omega), if_neg (by omega)]
        show _ = if a = 11 ∧ i = P.2.2.1 then x else if a = 12 ∧ i = P.2.2.1 then y else if a = 13 ∧ i = P.2.2.1 then z else P.2.2.2 a i
        rw [if_neg (by omega), if_neg (by omega), if_neg (by omega)]
        exact hs.a a i ha hi
      · rw [up_1o (by simp), k9]
        show _ = if a = 11 ∧ i = P.2.2.1 then x else if a = 12 ∧ i = P.2.2.1 then y else if a = 13 ∧ i = P.2.2.1 then z else P.2.2.2 a i
        have h4 : i < P.2.2.1 + 1 := h3
        by_cases c0 : i = P.2.2.1
        · rcases (show a = 11 ∨ a = 12 ∨ a = 13 by omega) with c1 | c1 | c1
          · rw [if_pos ⟨c1, c0⟩, if_pos ⟨c1, c0⟩]
          · rw [if_neg (by omega), if_pos ⟨c1, c0⟩, if_neg (by omega), if_pos ⟨c1, c0⟩]
          · rw [if_neg (by omega), if_neg (by omega), if_pos ⟨c1, c0⟩, if_neg (by omega), if_neg (by omega), if_pos ⟨c1, c0⟩]
        · rw [if_neg (by omega), if_neg (by omega), if_neg (by omega), if_neg (by omega), if_neg (by omega), if_neg (by omega)]
          exact hs.s a i h1 h2 (by omega)
      · rw [up_1o (by simp), k9, if_neg (by omega), if_neg (by omega), if_neg (by omega)]
        show _ = if 14 = 11 ∧ i = P.2.2.1 then x else if 14 = 12 ∧ i = P.2.2.1 then y else if 14 = 13 ∧ i = P.2.2.1 then z else P.2.2.2 14 i
        rw [if_neg (by omega), if_neg (by omega), if_neg (by omega)]
        exact hs.e i hi
theorem rNm_P {l m : Nat} {P' : dP} {T' : Nat → Bool} {k' : Nat} (h : rNm tk l m (.ok P T k) = .ok P' T' k') : P' = P ∧ T' = T ∧ k' = k + 1 := by
  rw [rNm_ok] at h
  by_cases c1 : (tk k).1 = 3
  · rw [if_pos c1] at h
    by_cases c2 : (tk k).2.1 < dn l ∨ dn m < (tk k).2.1
    · rw [if_pos c2] at h; cases h
    · rw [if_neg c2] at h; cases h; exact ⟨rfl, rfl, rfl⟩
  · rw [if_neg c1] at h; cases h
theorem rTo_P {P' : dP} {T' : Nat → Bool} {k' : Nat} (h : rGo (rRl tk (.ok P T k)) = .ok P' T' k') : P' = P ∧ T' = T ∧ k' = k + 1 := by
  rcases rTold_c (tk := tk) (k := k) (P := P) (T := T) trivial with ⟨c1, i, hi, e1, e2⟩ | ⟨f, hf, e2⟩
  · rw [e2] at h; cases h; exact ⟨rfl, rfl, rfl⟩
  · rw [e2] at h; cases h
theorem cSp47 {w : Nat} {y y' : Int32} (h : dCR tk M q σ0 n 0 s σ) (hv : ∀ P T k, s = .ok P T k → P.2.2.1 < 24 ∧ y = y') : dw (Re_readStep_n47 σ (dn w) y) (dCR tk M q σ0 n 0 (rSp (dn w) y' (rV tk s) (rNm tk 1 99 s))) := by
  unfold Re_readStep_n47
  rw [dw_b2]
  refine dw_mono (cNum (l := 1) (m := 99) h) fun r ⟨g1, g2⟩ => ?_
  rw [g1.X.hq, dw_b1]
  refine dw_mono (cSp (x' := dn w) (y' := y') (z' := rV tk s) g1 fun P T k e => ?_) fun _ h => dw_some.mpr h
  refine ⟨?_, rfl, ?_, g2 P T k e⟩
  · cases s with
    | inr zz =>
      obtain ⟨f, pl⟩ := zz
      cases e
    | inl zz =>
      obtain ⟨P0, T0, k0⟩ := zz
      rw [(rNm_P e).1]; exact (hv P0 T0 k0 rfl).1
  · cases s with
    | inr zz =>
      obtain ⟨f, pl⟩ := zz
      cases e
    | inl zz =>
      obtain ⟨P0, T0, k0⟩ := zz
      exact (hv P0 T0 k0 rfl).2
theorem cStep {w : Nat} {P : dP} (h : dCR tk M q σ0 n 0 (.ok P T k) σ) (hk : (tk k).1 ≠ 0) (hw : w < 4) : dw (F_Re_readStep σ (dn w)) (fun τ => ∃ n', dCR tk M q σ0 n' 0 (if P.2.2.1 = 24 then .bad 2 (tk k).2.2.2.1 else rStep tk w (.ok P T (k + 1))) τ) := by
  have hs : dCO tk M q n 0 P T k σ := h.s
  have hq2 := h.X.q2
  have hst := hs.st.2
  refine dw_mono (P := dCR tk M q σ0 n 0 (if P.2.2.1 = 24 then .bad 2 (tk k).2.2.2.1 else rStep tk w (.ok P T (k + 1)))) ?_ fun _ h => ⟨n, h⟩
  unfold F_Re_readStep
  rw [h.X.hq, dn_nat (show q < 2147483648 by omega), hs.st.1]
  by_cases c : P.2.2.1 = 24
  · rw [if_neg (by rw [show (24 : Int32) = dn 24 from rfl, dn_lt (by omega) (by omega)]; omega), if_pos (by omega), dw_b1]
    exact dw_mono (cRef (f := 2) h (by omega)) fun τ hτ => dw_some.mpr hτ
  · rw [if_pos (by rw [show (24 : Int32) = dn 24 from rfl, dn_lt (by omega) (by omega)]; omega), if_neg (by omega), dw_b1]
    refine dw_mono (cAdv h hk) fun σ1 h1 => ?_
    unfold rStep
    by_cases c2 : w = 2
    · subst c2
      rw [if_pos (show (2 : Nat) = 2 from rfl), if_pos (show dn 2 = 2 from rfl), if_pos (show dn 2 = 2 from rfl)]
      exact cSp47 (w := 2) h1 fun P T k e => by cases e; exact ⟨by omega, rfl⟩
    · rw [if_neg (by rw [show (2 : Int32) = dn 2 from rfl, dn_inj (by omega) (by omega)]; exact c2), if_neg c2, dw_b2]
      refine dw_mono (cTold h1) fun r ⟨g1, g2⟩ => ?_
      rw [if_neg (by rw [show (2 : Int32) = dn 2 from rfl, dn_inj (by omega) (by omega)]; exact c2)]
      have key : ∀ P' T' k', rGo (rRl tk (.ok P T (k + 1))) = .ok P' T' k' → P'.2.2.1 < 24 ∧ r.1 = rF tk (.ok P T (k + 1)) := fun P' T' k' e => ⟨by rw [(rTo_P e).1]; omega, (g2 P' T' k' e).1⟩
      by_cases c3 : w = 3
      · subst c3
        rw [if_pos (show (3 : Nat) = 3 from rfl), if_pos (show dn 3 = 3 from rfl)]
        exact cSp47 (w := 3) g1 key
      · rw [if_neg (by rw [show (3 : Int32) = dn 3 from rfl, dn_inj (by omega) (by omega)]; exact c3), if_neg c3, g1.X.hq, dw_b1]
        exact dw_mono (cSp g1 fun P' T' k' e => ⟨(key P' T' k' e).1, rfl, (key P' T' k' e).2, rfl⟩) fun _ h => dw_some.mpr h
theorem cSet {j : Nat} {v w : Int32} (h : dCR tk M q σ0 n 0 s σ) (hv : ∀ P T k, s = .ok P T k → v = w) : dCR tk M q σ0 n 0 (rSg j w s) (px_up σ (8, q, 14) j v) := by
  refine ⟨dCX_8 h.X, h.n12, by rw [up_8o (by simp)]; exact h.hn, by rw [up_8o (by simp)]; exact h.hm, by rw [up_8o (by simp)]; exact h.hs, ?_⟩
  cases s with
  | inr zz =>
    obtain ⟨f, pl⟩ := zz
    have hs : dCB f pl σ := h.s
    exact ⟨by rw [up_8o (by simp)]; exact hs.1, hs.2.1, by rw [up_8o (by simp)]; exact hs.2.2⟩
  | inl zz =>
    obtain ⟨P, T, k⟩ := zz
    have hs : dCO tk M q n 0 P T k σ := h.s
    rw [hv P T k rfl]
    refine ⟨hs.hn, hs.hk, by rw [up_8o (by simp)]; exact hs.f0, by rw [up_8o (by simp)]; exact hs.nx, by rw [up_8o (by simp)]; exact hs.kd, by rw [up_8o (by simp)]; exact hs.v, by rw [up_8o (by simp)]; exact hs.t, by rw [up_8o (by simp)]; exact hs.m, by rw [up_8o (by simp)]; exact hs.st, fun a i ha hi => ?_, fun a i h1 h2 h3 => ?_, fun i hi => ?_⟩
    · rw [up_8s]
      show _ = if a = 14 ∧ i = j then w else P.2.2.2 a i
      rw [if_neg (by omega), if_neg (by omega)]
      exact hs.a a i ha hi
    · rw [up_8s]
      show _ = if a = 14 ∧ i = j then w else P.2.2.2 a i
      rw [if_neg (by omega), if_neg (by omega)]
      exact hs.s a i h1 h2 h3
    · rw [up_8s]
      show _ = if 14 = 14 ∧ i = j then w else P.2.2.2 14 i
      by_cases e : i = j
      · rw [if_pos ⟨rfl, e⟩, if_pos ⟨rfl, e⟩]
      · rw [if_neg (fun z => e z.2), if_neg (fun z => e z.2)]; exact hs.e i hi
theorem cNs {j l m : Nat} {Q : pxS → Prop} {f : pxS → Option pxS} (h : dCR tk M q σ0 n 0 s σ) (hf : ∀ τ, dCR tk M q σ0 n 0 (rNs tk j l m s) τ → dw (f τ) Q) : dw (px_b2 (F_Re_number σ (dn l) (dn m)) fun r8 σ8 => px_l (px_up σ8 (8, (σ (6, 0, 0) 0).toNatClampNeg, 14) j r8) f) Q := by
  rw [dw_b2]
  refine dw_mono (cNum h) fun r hr => ?_
  rw [h.X.hq, dn_nat (by have := h.X.q2; omega)]
  exact hf _ (cSet hr.1 hr.2)
theorem cSett {i : Nat} {P : dP} (h : dCR tk M q σ0 n 0 (.ok P T k) σ) (hk : (tk k).1 ≠ 0) (hi : i < 14) (hi6 : 6 ≤ i) : dw (F_Re_readSetting σ (dn i)) (fun τ => ∃ n', dCR tk M q σ0 n' 0 (if T i = true then .bad 3 (tk k).2.2.2.1 else rSett tk (i - 6) (.ok P (fun j => if j = i then true else T j) (k + 1))) τ) := by
  have hs : dCO tk M q n 0 P T k σ := h.s
  have hq2 := h.X.q2
  refine dw_mono (P := dCR tk M q σ0 n 0 (if T i = true then .bad 3 (tk k).2.2.2.1 else rSett tk (i - 6) (.ok P (fun j => if j = i then true else T j) (k + 1)))) ?_ fun _ h => ⟨n, h⟩
  unfold F_Re_readSetting
  by_cases c : T i = true
  · rw [if_neg (by rw [db_sh0 (by omega), hs.t i (by omega), c]; decide), if_pos c, dw_b1]
    exact dw_mono (cRef (f := 3) h (by omega)) fun τ hτ => dw_some.mpr hτ
  · rw [if_pos ((db_sh0 (by omega)).mpr (by rw [hs.t i (by omega)]; simpa using c)), if_neg c, dw_l]
    have h0 : dCR tk M q σ0 n 0 (.ok P (fun j => if j = i then true else T j) k) (px_up σ (6, 0, 0) 14 (σ (6, 0, 0) 14 ||| (1 <<< (dn i &&& 31)))) := by
      refine ⟨dCX_6 h.X (d6_up (qs := [14]) (by simp)) (by simp) (by simp), h.n12, by rw [up_6o (by simp)]; exact h.hn, by rw [up_6o (by simp)]; exact h.hm, by rw [up_6o (by simp)]; exact h.hs, ?_⟩
      refine ⟨hs.hn, hs.hk, by rw [up_6, if_neg (by omega)]; exact hs.f0, by rw [up_6, if_neg (by omega)]; exact hs.nx, by rw [up_6, if_neg (by omega)]; exact hs.kd, by rw [up_6, if_neg (by omega)]; exact hs.v, fun w hw => ?_, by rw [up_6o (by simp)]; exact hs.m, by rw [up_6o (by simp)]; exact hs.st, fun a x h1 h2 => by rw [up_6o (by simp)]; exact hs.a a x h1 h2, fun a x h1 h2 h3 => by rw [up_6o (by simp)]; exact hs.s a x h1 h2 h3, fun x hx => by rw [up_6o (by simp)]; exact hs.e x hx⟩
      rw [up_6, if_pos rfl, db_or, db_one (by omega), hs.t w hw]
      by_cases e : w = i
      · rw [e]; simp
      · have : ¬ i = w := fun z => e z.symm
        simp [e, this]
    generalize px_up σ (6, 0, 0) 14 (σ (6, 0, 0) 14 ||| (1 <<< (dn i &&& 31))) = σ1 at h0
    rw [dw_b1]
    refine dw_mono (cAdv h0 hk) fun σ2 h2 => ?_
    generalize (fun j => if j = i then true else T j) = T2 at h2
    rw [show (6 : Int32) = dn 6 from rfl, dn_sub hi6]
    generalize hw : i - 6 = w
    have hw8 : w < 8 := by omega
    have e0 : ∀ x : Nat, x < 100 → (dn w = dn x ↔ w = x) := fun x hx => dn_inj (by omega) (by omega)
    unfold rSett
    have c0 := e0 0 (by omega); have c1 := e0 1 (by omega); have c2 := e0 2 (by omega); have c3 := e0 3 (by omega); have c4 := e0 4 (by omega); have c5 := e0 5 (by omega)
    simp only [show (0 : Int32) = dn 0 from rfl, show (1 : Int32) = dn 1 from rfl, show (2 : Int32) = dn 2 from rfl, show (3 : Int32) = dn 3 from rfl, show (4 : Int32) = dn 4 from rfl, show (5 : Int32) = dn 5 from rfl] at *
    by_cases d0 : w = 0
    · rw [if_pos (c0.mpr d0), if_pos d0]
      exact cNs (j := 0) (l := 1) (m := 999) h2 fun τ hτ => dw_some.mpr hτ
    rw [if_neg (fun z => d0 (c0.mp z)), if_neg d0]
    by_cases d1 : w = 1
    · rw [if_pos (c1.mpr d1), if_pos d1]
      exact cNs (j := 1) (l := 1) (m := 9999) h2 fun τ hτ => dw_some.mpr hτ
    rw [if_neg (fun z => d1 (c1.mp z)), if_neg d1]
    by_cases d2 : w = 2
    · rw [if_pos (c2.mpr d2), if_pos d2]
      exact cNs (j := 2) (l := 1) (m := 100) h2 fun τ hτ => dw_some.mpr hτ
    rw [if_neg (fun z => d2 (c2.mp z)), if_neg d2]
    by_cases d3 : w = 3
    · rw [if_pos (c3.mpr d3), if_pos d3]
      exact cNs (j := 3) (l := 1) (m := 9) h2 fun τ hτ => dw_some.mpr hτ
    rw [if_neg (fun z => d3 (c3.mp z)), if_neg d3]
    by_cases d4 : w = 4
    · rw [if_pos (c4.mpr d4), if_pos d4]
      exact cNs (j := 4) (l := 0) (m := 9) h2 fun τ hτ => cNs (j := 5) (l := 1) (m := 99) hτ fun τ hτ => dw_some.mpr hτ
    rw [if_neg (fun z => d4 (c4.mp z)), if_neg d4]
    by_cases d5 : w = 5
    · rw [if_pos (c5.mpr d5), if_pos d5]
      exact cNs (j := 6) (l := 1) (m := 999999) h2 fun τ hτ => dw_some.mpr hτ
    rw [if_neg (fun z => d5 (c5.mp z)), if_neg d5]
    exact cNs (j := 7) (l := 0) (m := 99999) h2 fun τ hτ => dw_some.mpr hτ
theorem cLine {P : dP} (h : dCR tk M q σ0 n 0 (.ok P T k) σ) (hk : (tk k).1 ≠ 0) : dw (F_Re_readLine σ) (fun τ => ∃ n', dCR tk M q σ0 n' 0 (rLine tk (.ok P T k)) τ) := by
  have hs : dCO tk M q n 0 P T k σ := h.s
  have k5 := h.X.K.k5 k hs.hk
  have n84 : ∀ {s' : rRes} {σ' : pxS}, (∃ n', dCR tk M q σ0 n' 0 s' σ') → dw (Re_readLine_n84 σ') (fun τ => ∃ n', dCR tk M q σ0 n' 0 (rTk tk 4 s') τ) := fun ⟨n', h⟩ => by
    unfold Re_readLine_n84
    rw [dw_b1]
    exact dw_mono (cTake (w := 4) h (by omega) (by omega)) fun _ h => dw_some.mpr ⟨n', h⟩
  have n17 : dw (Re_readLine_n17 σ) (fun τ => ∃ n', dCR tk M q σ0 n' 0 (.bad 1 (tk k).2.2.2.1) τ) := by
    unfold Re_readLine_n17
    rw [dw_b1]
    exact dw_mono (cRef (f := 1) h (by omega)) fun τ hτ => n84 ⟨n, hτ⟩
  unfold F_Re_readLine
  rw [hs.kd, hs.v]
  by_cases c : (tk k).1 = 2
  · obtain ⟨i, hi, e⟩ := h.X.K.v2 k hs.hk c
    by_cases c1 : (tk k).2.1 = 13
    · rw [show rLine tk (.ok P T k) = .bad 1 (tk k).2.2.2.1 from if_neg (fun z => z.2 c1), if_pos (by rw [c]; rfl), if_pos c1]; exact n17
    · rw [show rLine tk (.ok P T k) = rTk tk 4 (rBody tk P T k i) from (if_pos ⟨c, c1⟩).trans (by rw [e, dn_nat (by omega)]), if_pos (by rw [c]; rfl), if_neg c1, e]
      unfold rBody
      by_cases d0 : i = 0
      · subst d0
        rw [if_pos (show dn 0 = 0 from rfl), if_pos (show (0 : Nat) = 0 from rfl), dw_b1]
        exact dw_mono (cRail h hk) fun τ hτ => n84 hτ
      rw [if_neg (show ¬ dn i = 0 by rw [show (0 : Int32) = dn 0 from rfl, dn_inj (by omega) (by omega)]; exact d0), if_neg d0]
      by_cases d1 : i = 1
      · subst d1
        rw [if_pos (show dn 1 = 1 from rfl), if_pos (show (1 : Nat) = 1 from rfl), dw_b1]
        exact dw_mono (cNeed h hk) fun τ hτ => n84 hτ
      rw [if_neg (show ¬ dn i = 1 by rw [show (1 : Int32) = dn 1 from rfl, dn_inj (by omega) (by omega)]; exact d1), if_neg d1]
      by_cases d6 : i < 6
      · rw [if_neg (show ¬ (6 : Int32) ≤ dn i by rw [show (6 : Int32) = dn 6 from rfl, dn_le (by omega) (by omega)]; omega), if_pos d6, show (2 : Int32) = dn 2 from rfl, dn_sub (by omega), dw_b1]
        exact dw_mono (cStep h hk (by omega)) fun τ hτ => n84 hτ
      · rw [if_pos (show (6 : Int32) ≤ dn i by rw [show (6 : Int32) = dn 6 from rfl, dn_le (by omega) (by omega)]; omega), if_neg d6, dw_b1]
        exact dw_mono (cSett h hk hi (by omega)) fun τ hτ => n84 hτ
  · rw [show rLine tk (.ok P T k) = .bad 1 (tk k).2.2.2.1 from if_neg (fun z => c z.1), if_neg (by rw [show (2 : Int32) = dn 2 from rfl, dn_inj (by omega) (by omega)]; exact c)]
    exact n17
end H9
end
section
/-! what is told holds of the plan under way -/
abbrev dWR (P : dP) : Prop := (P.1 ≤ 12) ∧ (P.2.1 ≤ 20) ∧ (P.2.2.1 ≤ 24) ∧ (∀ i, i < P.1 → P.2.2.2 1 i = -2 ∨ ∃ j, j < i ∧ P.2.2.2 1 i = dn j) ∧ (∀ i, i < P.1 → ∃ x, (1 ≤ x ∧ x ≤ 9999) ∧ P.2.2.2 2 i = dn x) ∧ (∀ i, i < P.1 → ∃ x, (1 ≤ x ∧ x ≤ 9999) ∧ P.2.2.2 3 i = dn x) ∧ (∀ i, i < P.1 → ∃ x, (0 ≤ x ∧ x ≤ 99) ∧ P.2.2.2 4 i = dn x) ∧ (∀ i, i < P.1 → ∃ x, (0 ≤ x ∧ x ≤ 999) ∧ P.2.2.2 5 i = dn x) ∧ (∀ i, i < P.1 → ∃ x, (1 ≤ x ∧ x ≤ 99999) ∧ P.2.2.2 6 i = dn x) ∧ (∀ i, i < P.1 → ∀ j, j < 32 → db (P.2.2.2 7 i) j = true → j < P.1) ∧ (∀ k, k < P.2.2.1 → ∃ w, w < 4 ∧ P.2.2.2 11 k = dn w ∧ (w ≠ 2 → ∃ j, j < P.1 ∧ P.2.2.2 12 k = dn j) ∧ ∃ t, t < 100 ∧ P.2.2.2 13 k = dn t ∧ (w = 3 → 1 ≤ t)) ∧ (∃ x, (1 ≤ x ∧ x ≤ 999) ∧ P.2.2.2 14 0 = dn x) ∧ (∃ x, (1 ≤ x ∧ x ≤ 9999) ∧ P.2.2.2 14 1 = dn x) ∧ (∃ x, (1 ≤ x ∧ x ≤ 100) ∧ P.2.2.2 14 2 = dn x) ∧ (∃ x, (1 ≤ x ∧ x ≤ 9) ∧ P.2.2.2 14 3 = dn x) ∧ (∃ x, (0 ≤ x ∧ x ≤ 9) ∧ P.2.2.2 14 4 = dn x) ∧ (∃ x, (1 ≤ x ∧ x ≤ 99) ∧ P.2.2.2 14 5 = dn x) ∧ (∃ x, (1 ≤ x ∧ x ≤ 999999) ∧ P.2.2.2 14 6 = dn x) ∧ (∃ x, (0 ≤ x ∧ x ≤ 99999) ∧ P.2.2.2 14 7 = dn x)
theorem dWR.n {P : dP} (h0 : dWR P) : P.1 ≤ 12 := h0.1
theorem dWR.m {P : dP} (h0 : dWR P) : P.2.1 ≤ 20 := h0.2.1
theorem dWR.st {P : dP} (h0 : dWR P) : P.2.2.1 ≤ 24 := h0.2.2.1
theorem dWR.pr {P : dP} (h0 : dWR P) : ∀ i, i < P.1 → P.2.2.2 1 i = -2 ∨ ∃ j, j < i ∧ P.2.2.2 1 i = dn j := h0.2.2.2.1
theorem dWR.lv {P : dP} (h0 : dWR P) : ∀ i, i < P.1 → ∃ x, (1 ≤ x ∧ x ≤ 9999) ∧ P.2.2.2 2 i = dn x := h0.2.2.2.2.1
theorem dWR.rp {P : dP} (h0 : dWR P) : ∀ i, i < P.1 → ∃ x, (1 ≤ x ∧ x ≤ 9999) ∧ P.2.2.2 3 i = dn x := h0.2.2.2.2.2.1
theorem dWR.ch {P : dP} (h0 : dWR P) : ∀ i, i < P.1 → ∃ x, (0 ≤ x ∧ x ≤ 99) ∧ P.2.2.2 4 i = dn x := h0.2.2.2.2.2.2.1
theorem dWR.ld {P : dP} (h0 : dWR P) : ∀ i, i < P.1 → ∃ x, (0 ≤ x ∧ x ≤ 999) ∧ P.2.2.2 5 i = dn x := h0.2.2.2.2.2.2.2.1
theorem dWR.lm {P : dP} (h0 : dWR P) : ∀ i, i < P.1 → ∃ x, (1 ≤ x ∧ x ≤ 99999) ∧ P.2.2.2 6 i = dn x := h0.2.2.2.2.2.2.2.2.1
theorem dWR.nd {P : dP} (h0 : dWR P) : ∀ i, i < P.1 → ∀ j, j < 32 → db (P.2.2.2 7 i) j = true → j < P.1 := h0.2.2.2.2.2.2.2.2.2.1
theorem dWR.s {P : dP} (h0 : dWR P) : ∀ k, k < P.2.2.1 → ∃ w, w < 4 ∧ P.2.2.2 11 k = dn w ∧ (w ≠ 2 → ∃ j, j < P.1 ∧ P.2.2.2 12 k = dn j) ∧ ∃ t, t < 100 ∧ P.2.2.2 13 k = dn t ∧ (w = 3 → 1 ≤ t) := h0.2.2.2.2.2.2.2.2.2.2.1
theorem dWR.e0 {P : dP} (h0 : dWR P) : ∃ x, (1 ≤ x ∧ x ≤ 999) ∧ P.2.2.2 14 0 = dn x := h0.2.2.2.2.2.2.2.2.2.2.2.1
theorem dWR.e1 {P : dP} (h0 : dWR P) : ∃ x, (1 ≤ x ∧ x ≤ 9999) ∧ P.2.2.2 14 1 = dn x := h0.2.2.2.2.2.2.2.2.2.2.2.2.1
theorem dWR.e2 {P : dP} (h0 : dWR P) : ∃ x, (1 ≤ x ∧ x ≤ 100) ∧ P.2.2.2 14 2 = dn x := h0.2.2.2.2.2.2.2.2.2.2.2.2.2.1
theorem dWR.e3 {P : dP} (h0 : dWR P) : ∃ x, (1 ≤ x ∧ x ≤ 9) ∧ P.2.2.2 14 3 = dn x := h0.2.2.2.2.2.2.2.2.2.2.2.2.2.2.1
theorem dWR.e4 {P : dP} (h0 : dWR P) : ∃ x, (0 ≤ x ∧ x ≤ 9) ∧ P.2.2.2 14 4 = dn x := h0.2.2.2.2.2.2.2.2.2.2.2.2.2.2.2.1
theorem dWR.e5 {P : dP} (h0 : dWR P) : ∃ x, (1 ≤ x ∧ x ≤ 99) ∧ P.2.2.2 14 5 = dn x := h0.2.2.2.2.2.2.2.2.2.2.2.2.2.2.2.2.1
theorem dWR.e6 {P : dP} (h0 : dWR P) : ∃ x, (1 ≤ x ∧ x ≤ 999999) ∧ P.2.2.2 14 6 = dn x := h0.2.2.2.2.2.2.2.2.2.2.2.2.2.2.2.2.2.1
theorem dWR.e7 {P : dP} (h0 : dWR P) : ∃ x, (0 ≤ x ∧ x ≤ 99999) ∧ P.2.2.2 14 7 = dn x := h0.2.2.2.2.2.2.2.2.2.2.2.2.2.2.2.2.2.2
def rP0 : dP := ⟨0, 0, 0, fun a i => if a = 14 then (if i = 0 then 50 else if i = 1 then 500 else if i = 2 then 90 else if i = 3 then 1 else if i = 4 then 0 else if i = 5 then 10 else if i = 6 then 99999 else 0) else 0⟩
theorem dWR_0 : dWR rP0 := by
  refine ⟨Nat.zero_le _, Nat.zero_le _, Nat.zero_le _, ?_, ?_, ?_, ?_, ?_, ?_, ?_, ?_, ⟨50, by omega, rfl⟩, ⟨500, by omega, rfl⟩, ⟨90, by omega, rfl⟩, ⟨1, by omega, rfl⟩, ⟨0, by omega, rfl⟩, ⟨10, by omega, rfl⟩, ⟨99999, by omega, rfl⟩, ⟨0, by omega, rfl⟩⟩ <;> exact fun i hi => absurd hi (Nat.not_lt_zero _)
section I1
variable {tk : Nat → dTok} {P P' : dP} {T T' : Nat → Bool} {k k' l m c : Nat} {s : rRes}
def rV3 (tk : Nat → dTok) : Prop := ∀ k, (tk k).1 = 3 → ∃ x, x ≤ 1000000 ∧ (tk k).2.1 = dn x
theorem rNm_inv (hv : rV3 tk) (hm : m < 1000000) (hl : l ≤ m) (h : rNm tk l m s = .ok P' T' k') : ∃ k, s = .ok P' T' k ∧ k' = k + 1 ∧ ∃ x, (l ≤ x ∧ x ≤ m) ∧ rV tk s = dn x := by
  cases s with
  | inr zz =>
    obtain ⟨f, pl⟩ := zz
    cases h
  | inl zz =>
    obtain ⟨P, T, k⟩ := zz
    obtain ⟨rfl, rfl, rfl⟩ := rNm_P h
    refine ⟨k, rfl, rfl, ?_⟩
    rw [rNm_ok] at h
    by_cases c1 : (tk k).1 = 3
    · rw [if_pos c1] at h
      obtain ⟨x, x1, x2⟩ := hv k c1
      by_cases c2 : (tk k).2.1 < dn l ∨ dn m < (tk k).2.1
      · rw [if_pos c2] at h; cases h
      · rw [x2, dn_lt (by omega) (by omega), dn_lt (by omega) (by omega)] at c2
        exact ⟨x, by omega, x2⟩
    · rw [if_neg c1] at h; cases h
theorem rTo_inv (h : rGo (rRl tk s) = .ok P' T' k') : ∃ k, s = .ok P' T' k ∧ k' = k + 1 ∧ ∃ j, j < P'.1 ∧ rF tk s = dn j := by
  cases s with
  | inr zz =>
    obtain ⟨f, pl⟩ := zz
    cases h
  | inl zz =>
    obtain ⟨P, T, k⟩ := zz
    obtain ⟨rfl, rfl, rfl⟩ := rTo_P h
    refine ⟨k, rfl, rfl, ?_⟩
    rcases rTold_c (tk := tk) (k := k) (P := P') (T := T') trivial with ⟨c1, i, hi, e1, e2⟩ | ⟨f, hf, e2⟩
    · exact ⟨i, hi, e1⟩
    · rw [e2] at h; cases h
theorem rFr_inv (h : rFr tk s = .ok P' T' k') : ∃ k, s = .ok P' T' k ∧ k' = k + 1 := by
  cases s with
  | inr zz =>
    obtain ⟨f, pl⟩ := zz
    cases h
  | inl zz =>
    obtain ⟨P, T, k⟩ := zz
    rw [rFr_ok] at h
    by_cases c1 : (tk k).1 = 1
    · rw [if_pos c1] at h
      by_cases c2 : dfn (P.2.2.2 0) P.1 (tk k).2.1 = -1
      · rw [if_pos c2] at h; cases h; exact ⟨k, rfl, rfl⟩
      · rw [if_neg c2] at h; cases h
    · rw [if_neg c1] at h; cases h
theorem rPa_inv (h : rPa tk s = .ok P' T' k') : ∃ k, s = .ok P' T' k ∧ k' = k + 1 ∧ (rPv tk s = -2 ∨ ∃ j, j < P'.1 ∧ rPv tk s = dn j) := by
  unfold rPa at h
  unfold rPv
  by_cases c1 : rIs tk s = true
  · rw [if_pos c1] at h ⊢
    cases s with
    | inr zz =>
      obtain ⟨f, pl⟩ := zz
      cases h
    | inl zz =>
      obtain ⟨P, T, k⟩ := zz
      cases h; exact ⟨k, rfl, rfl, Or.inl rfl⟩
  · rw [if_neg c1] at h ⊢
    obtain ⟨k, h1, h2, h3⟩ := rTo_inv h
    exact ⟨k, h1, h2, Or.inr h3⟩
theorem rCol_inv {w : Int32} (h : rCol c w s = .ok P' T' k') : ∃ P, s = .ok P T' k' ∧ P' = P.col c w := by
  cases s with
  | inr zz =>
    obtain ⟨f, pl⟩ := zz
    cases h
  | inl zz =>
    obtain ⟨P, T, k⟩ := zz
    cases h; exact ⟨P, rfl, rfl⟩
theorem rNc_inv (hv : rV3 tk) (hm : m < 1000000) (hl : l ≤ m) (h : rNc tk c l m s = .ok P' T' k') : ∃ P k, s = .ok P T' k ∧ k' = k + 1 ∧ ∃ x, (l ≤ x ∧ x ≤ m) ∧ P' = P.col c (dn x) := by
  unfold rNc at h
  obtain ⟨P, h1, h2⟩ := rCol_inv h
  obtain ⟨k, h3, h4, x, h5, h6⟩ := rNm_inv hv hm hl h1
  exact ⟨P, k, h3, h4, x, h5, by rw [h2, h6]⟩
theorem rNs_inv {j : Nat} (hv : rV3 tk) (hm : m < 1000000) (hl : l ≤ m) (h : rNs tk j l m s = .ok P' T' k') : ∃ P k, s = .ok P T' k ∧ k' = k + 1 ∧ ∃ x, (l ≤ x ∧ x ≤ m) ∧ P' = P.sg j (dn x) := by
  unfold rNs at h
  cases e : rNm tk l m s with
  | inr zz =>
    obtain ⟨f, pl⟩ := zz
    rw [e] at h; cases h
  | inl zz =>
    obtain ⟨P, T, k⟩ := zz
    obtain ⟨k0, h3, h4, x, h5, h6⟩ := rNm_inv hv hm hl e
    rw [e] at h
    cases h
    exact ⟨P, k0, h3, h4, x, h5, by rw [h6]⟩
theorem rRail_inv (hv : rV3 tk) (hW : dWR P) (hn : P.1 < 12) (h : rRail tk (.ok P T k) = .ok P' T' k') : k < k' ∧ dWR P' := by
  unfold rRail at h
  dsimp only at h
  cases e : rCol 7 0 (rNc tk 6 1 99999 (rNc tk 5 0 999 (rNc tk 4 0 99 (rNc tk 3 1 9999 (rNc tk 2 1 9999 (rCol 1 (rPv tk (rCol 0 (rV tk (.ok P T k)) (rFr tk (.ok P T k)))) (rPa tk (rCol 0 (rV tk (.ok P T k)) (rFr tk (.ok P T k)))))))))) with
  | inr zz =>
    obtain ⟨f, pl⟩ := zz
    rw [e] at h; cases h
  | inl zz =>
    obtain ⟨P7, T7, k7⟩ := zz
    rw [e] at h
    cases h
    obtain ⟨P6, f1, rfl⟩ := rCol_inv e
    obtain ⟨P5, k5, f2, rfl, x6, y6, rfl⟩ := rNc_inv hv (by omega) (by omega) f1
    obtain ⟨P4, k4, f3, rfl, x5, y5, rfl⟩ := rNc_inv hv (by omega) (by omega) f2
    obtain ⟨P3, k3, f4, rfl, x4, y4, rfl⟩ := rNc_inv hv (by omega) (by omega) f3
    obtain ⟨P2, k2, f5, rfl, x3, y3, rfl⟩ := rNc_inv hv (by omega) (by omega) f4
    obtain ⟨P1, k1, f6, rfl, x2, y2, rfl⟩ := rNc_inv hv (by omega) (by omega) f5
    obtain ⟨P0, f7, hP1⟩ := rCol_inv f6
    obtain ⟨k0, f8, rfl, hpv⟩ := rPa_inv f7
    obtain ⟨Pz, f9, hP0⟩ := rCol_inv f8
    obtain ⟨kz, f10, rfl⟩ := rFr_inv f9
    cases f10
    generalize hq : rPv tk (rCol 0 (rV tk (rRes.ok P T k)) (rFr tk (rRes.ok P T k))) = w at hP1 hpv
    have n0 : P0.1 = P.1 := by rw [hP0]; rfl
    have n1 : P1.1 = P.1 := by rw [hP1]; exact n0
    rw [n0] at hpv
    -- the whole
    have key : ∀ a i, ((((((P1.col 2 (dn x2)).col 3 (dn x3)).col 4 (dn x4)).col 5 (dn x5)).col 6 (dn x6)).col 7 0).2.2.2 a i = if i = P.1 ∧ a < 8 then (if a = 7 then 0 else if a = 6 then dn x6 else if a = 5 then dn x5 else if a = 4 then dn x4 else if a = 3 then dn x3 else if a = 2 then dn x2 else if a = 1 then w else rV tk (.ok P T k)) else P.2.2.2 a i := by
      intro a i
      unfold dP.col
      dsimp only
      rw [hP1, hP0]
      unfold dP.col
      dsimp only
      by_cases c1 : i = P.1
      · by_cases d7 : a = 7
        · simp [c1, d7]
        by_cases d6 : a = 6
        · simp [c1, d6]
        by_cases d5 : a = 5
        · simp [c1, d5]
        by_cases d4 : a = 4
        · simp [c1, d4]
        by_cases d3 : a = 3
        · simp [c1, d3]
        by_cases d2 : a = 2
        · simp [c1, d2]
        by_cases d1 : a = 1
        · simp [c1, d1]
        by_cases d0 : a = 0
        · simp [c1, d0]
        · simp [d7, d6, d5, d4, d3, d2, d1, d0, show ¬ a < 8 by omega]
      · simp [c1]
    refine ⟨by omega, ?_⟩
    generalize hF : (((((P1.col 2 (dn x2)).col 3 (dn x3)).col 4 (dn x4)).col 5 (dn x5)).col 6 (dn x6)).col 7 0 = F at key
    have Fn : F.1 = P.1 := by rw [← hF]; exact n1
    have Fm : F.2.1 = P.2.1 := by rw [← hF]; show P1.2.1 = _; rw [hP1]; show P0.2.1 = _; rw [hP0]; rfl
    have Fs : F.2.2.1 = P.2.2.1 := by rw [← hF]; show P1.2.2.1 = _; rw [hP1]; show P0.2.2.1 = _; rw [hP0]; rfl
    have lt : ∀ i, i < F.1 + 1 → i ≠ P.1 → i < P.1 := fun i hi hne => by omega
    have big : ∀ a i, 8 ≤ a → F.2.2.2 a i = P.2.2.2 a i := fun a i ha => by rw [key, if_neg (by omega)]
    have old : ∀ a i, i ≠ P.1 → F.2.2.2 a i = P.2.2.2 a i := fun a i hi => by rw [key, if_neg (by omega)]
    refine ⟨by show F.1 + 1 ≤ 12; omega, by show F.2.1 ≤ 20; rw [Fm]; exact hW.m, by show F.2.2.1 ≤ 24; rw [Fs]; exact hW.st, fun i hi => ?_, fun i hi => ?_, fun i hi => ?_, fun i hi => ?_, fun i hi => ?_, fun i hi => ?_, fun i hi j hj hb => ?_, fun x hx => ?_, ?_, ?_, ?_, ?_, ?_, ?_, ?_, ?_⟩
    · show F.2.2.2 1 i = -2 ∨ ∃ j, j < i ∧ F.2.2.2 1 i = dn j
      by_cases z : i = P.1
      · rw [key, if_pos ⟨z, by omega⟩, if_neg (by omega), if_neg (by omega), if_neg (by omega), if_neg (by omega), if_neg (by omega), if_neg (by omega), if_pos rfl, z]
        exact hpv
      · rw [old _ _ z]; exact hW.pr i (lt i hi z)
    · show ∃ x, _ ∧ F.2.2.2 2 i = dn x
      by_cases z : i = P.1
      · rw [key, if_pos ⟨z, by omega⟩, if_neg (by omega), if_neg (by omega), if_neg (by omega), if_neg (by omega), if_neg (by omega), if_pos rfl]
        exact ⟨x2, y2, rfl⟩
      · rw [old _ _ z]; exact hW.lv i (lt i hi z)
    · show ∃ x, _ ∧ F.2.2.2 3 i = dn x
      by_cases z : i = P.1
      · rw [key, if_pos ⟨z, by omega⟩, if_neg (by omega), if_neg (by omega), if_neg (by omega), if_neg (by omega), if_pos rfl]
        exact ⟨x3, y3, rfl⟩
      · rw [old _ _ z]; exact hW.rp i (lt i hi z)
    · show ∃ x, _ ∧ F.2.2.2 4 i = dn x
      by_cases z : i = P.1
      · rw [key, if_pos ⟨z, by omega⟩, if_neg (by omega), if_neg (by omega), if_neg (by omega), if_pos rfl]
        exact ⟨x4, y4, rfl⟩
      · rw [old _ _ z]; exact hW.ch i (lt i hi z)
    · show ∃ x, _ ∧ F.2.2.2 5 i = dn x
      by_cases z : i = P.1
      · rw [key, if_pos ⟨z, by omega⟩, if_neg (by omega), if_neg (by omega), if_pos rfl]
        exact ⟨x5, y5, rfl⟩
      · rw [old _ _ z]; exact hW.ld i (lt i hi z)
    · show ∃ x, _ ∧ F.2.2.2 6 i = dn x
      by_cases z : i = P.1
      · rw [key, if_pos ⟨z, by omega⟩, if_neg (by omega), if_pos rfl]
        exact ⟨x6, y6, rfl⟩
      · rw [old _ _ z]; exact hW.lm i (lt i hi z)
    · replace hb : db (F.2.2.2 7 i) j = true := hb
      show j < F.1 + 1
      by_cases z : i = P.1
      · rw [key, if_pos ⟨z, by omega⟩, if_pos rfl, db_zero] at hb
        exact absurd hb (by decide)
      · rw [old _ _ z] at hb
        have := hW.nd i (lt i hi z) j hj hb
        omega
    · replace hx : x < F.2.2.1 := hx
      rw [Fs] at hx
      obtain ⟨w', w1, w2, w3, w4⟩ := hW.s x hx
      refine ⟨w', w1, by show F.2.2.2 11 x = _; rw [big _ _ (by omega)]; exact w2, fun z => ?_, ?_⟩
      · obtain ⟨j, j1, j2⟩ := w3 z
        exact ⟨j, by show j < F.1 + 1; omega, by show F.2.2.2 12 x = _; rw [big _ _ (by omega)]; exact j2⟩
      · show ∃ t, t < 100 ∧ F.2.2.2 13 x = dn t ∧ _
        rw [big _ _ (by omega)]; exact w4
    · show ∃ x, _ ∧ F.2.2.2 14 0 = dn x
      rw [big _ _ (by omega)]; exact hW.e0
    · show ∃ x, _ ∧ F.2.2.2 14 1 = dn x
      rw [big _ _ (by omega)]; exact hW.e1
    · show ∃ x, _ ∧ F.2.2.2 14 2 = dn x
      rw [big _ _ (by omega)]; exact hW.e2
    · show ∃ x, _ ∧ F.2.2.2 14 3 = dn x
      rw [big _ _ (by omega)]; exact hW.e3
    · show ∃ x, _ ∧ F.2.2.2 14 4 = dn x
      rw [big _ _ (by omega)]; exact hW.e4
    · show ∃ x, _ ∧ F.2.2.2 14 5 = dn x
      rw [big _ _ (by omega)]; exact hW.e5
    · show ∃ x, _ ∧ F.2.2.2 14 6 = dn x
      rw [big _ _ (by omega)]; exact hW.e6
    · show ∃ x, _ ∧ F.2.2.2 14 7 = dn x
      rw [big _ _ (by omega)]; exact hW.e7
theorem rNeed_inv (hW : dWR P) (hm : P.2.1 < 20) (h : rNeed tk (.ok P T k) = .ok P' T' k') : k < k' ∧ dWR P' := by
  unfold rNeed at h
  dsimp only at h
  cases e : rGo (rRl tk (.ok P T k)) with
  | inr zz =>
    obtain ⟨f, pl⟩ := zz
    rw [e] at h; cases h
  | inl zz =>
    obtain ⟨P1, T1, k1⟩ := zz
    obtain ⟨k0, f1, rfl, i, hi, e1⟩ := rTo_inv e
    cases f1
    rw [e, e1] at h
    rcases rTold_c (tk := tk) (k := k + 1) (P := P) (T := T) trivial with ⟨c1, j, hj, e2, e3⟩ | ⟨f, hf, e3⟩
    · rw [e3, show rF tk (.ok P T (k + 1)) = dn j from e2] at h
      replace h : (if dn i = dn j then rRes.bad 2 (tk (k + 1)).2.2.2.1 else if ((P.2.2.2 7 (dn i).toNatClampNeg) >>> (dn j &&& 31)) &&& 1 = 1 then .bad 3 (tk (k + 1)).2.2.2.1 else .ok (P.nd (dn i) (dn j)) T (k + 2)) = .ok P' T' k' := h
      have hn := hW.n
      by_cases c2 : dn i = dn j
      · rw [if_pos c2] at h; cases h
      rw [if_neg c2] at h
      by_cases c3 : ((P.2.2.2 7 (dn i).toNatClampNeg) >>> (dn j &&& 31)) &&& 1 = 1
      · rw [if_pos c3] at h; cases h
      rw [if_neg c3] at h
      cases h
      have hin : (dn i).toNatClampNeg = i := dn_nat (by omega)
      have key : ∀ a x, (P.nd (dn i) (dn j)).2.2.2 a x = if a = 7 ∧ x = i then P.2.2.2 7 i ||| (1 <<< (dn j &&& 31)) else P.2.2.2 a x := fun a x => by
        unfold dP.nd; dsimp only; rw [hin]
      have old : ∀ a x, a ≠ 7 → (P.nd (dn i) (dn j)).2.2.2 a x = P.2.2.2 a x := fun a x ha => by rw [key, if_neg (fun z => ha z.1)]
      refine ⟨by omega, hW.n, by show P.2.1 + 1 ≤ 20; omega, hW.st, fun x hx => by rw [old _ _ (by omega)]; exact hW.pr x hx, fun x hx => by rw [old _ _ (by omega)]; exact hW.lv x hx, fun x hx => by rw [old _ _ (by omega)]; exact hW.rp x hx, fun x hx => by rw [old _ _ (by omega)]; exact hW.ch x hx, fun x hx => by rw [old _ _ (by omega)]; exact hW.ld x hx, fun x hx => by rw [old _ _ (by omega)]; exact hW.lm x hx, fun x hx y hy hb => ?_, fun x hx => by rw [old _ _ (by omega), old _ _ (by omega), old _ _ (by omega)]; exact hW.s x hx, by rw [old _ _ (by omega)]; exact hW.e0, by rw [old _ _ (by omega)]; exact hW.e1, by rw [old _ _ (by omega)]; exact hW.e2, by rw [old _ _ (by omega)]; exact hW.e3, by rw [old _ _ (by omega)]; exact hW.e4, by rw [old _ _ (by omega)]; exact hW.e5, by rw [old _ _ (by omega)]; exact hW.e6, by rw [old _ _ (by omega)]; exact hW.e7⟩
      rw [key] at hb
      show y < P.1
      by_cases z : 7 = 7 ∧ x = i
      · rw [if_pos z, db_or, db_one (by omega)] at hb
        by_cases c4 : j = y
        · omega
        · simp [c4] at hb; exact hW.nd i hi y hy hb
      · rw [if_neg z] at hb; exact hW.nd x hx y hy hb
    · rw [e3] at h; cases h
theorem dWR_sp {w : Nat} {y : Int32} {t : Nat} (hW : dWR P) (hs : P.2.2.1 < 24) (hw : w < 4) (hy : w ≠ 2 → ∃ j, j < P.1 ∧ y = dn j) (ht : t < 100) (ht3 : w = 3 → 1 ≤ t) : dWR (P.sp (dn w) y (dn t)) := by
  have old : ∀ a x, a ≠ 11 → a ≠ 12 → a ≠ 13 → (P.sp (dn w) y (dn t)).2.2.2 a x = P.2.2.2 a x := fun a x h1 h2 h3 => by
    unfold dP.sp; dsimp only; rw [if_neg (fun z => h1 z.1), if_neg (fun z => h2 z.1), if_neg (fun z => h3 z.1)]
  refine ⟨hW.n, hW.m, by show P.2.2.1 + 1 ≤ 24; omega, fun x hx => by rw [old _ _ (by omega) (by omega) (by omega)]; exact hW.pr x hx, fun x hx => by rw [old _ _ (by omega) (by omega) (by omega)]; exact hW.lv x hx, fun x hx => by rw [old _ _ (by omega) (by omega) (by omega)]; exact hW.rp x hx, fun x hx => by rw [old _ _ (by omega) (by omega) (by omega)]; exact hW.ch x hx, fun x hx => by rw [old _ _ (by omega) (by omega) (by omega)]; exact hW.ld x hx, fun x hx => by rw [old _ _ (by omega) (by omega) (by omega)]; exact hW.lm x hx, fun x hx => by rw [old _ _ (by omega) (by omega) (by omega)]; exact hW.nd x hx, fun x hx => ?_, by rw [old _ _ (by omega) (by omega) (by omega)]; exact hW.e0, by rw [old _ _ (by omega) (by omega) (by omega)]; exact hW.e1, by rw [old _ _ (by omega) (by omega) (by omega)]; exact hW.e2, by rw [old _ _ (by omega) (by omega) (by omega)]; exact hW.e3, by rw [old _ _ (by omega) (by omega) (by omega)]; exact hW.e4, by rw [old _ _ (by omega) (by omega) (by omega)]; exact hW.e5, by rw [old _ _ (by omega) (by omega) (by omega)]; exact hW.e6, by rw [old _ _ (by omega) (by omega) (by omega)]; exact hW.e7⟩
  replace hx : x < P.2.2.1 + 1 := hx
  unfold dP.sp
  dsimp only
  by_cases c : x = P.2.2.1
  · refine ⟨w, hw, if_pos ⟨rfl, c⟩, fun z => ?_, t, ht, ?_, ht3⟩
    · obtain ⟨j, j1, j2⟩ := hy z
      exact ⟨j, j1, by rw [if_neg (by omega), if_pos ⟨rfl, c⟩]; exact j2⟩
    · rw [if_neg (by omega), if_neg (by omega), if_pos ⟨rfl, c⟩]
  · have hx2 : x < P.2.2.1 := by omega
    obtain ⟨w', w1, w2, w3, t', w4, w5, w6⟩ := hW.s x hx2
    refine ⟨w', w1, by rw [if_neg (by omega), if_neg (by omega), if_neg (by omega)]; exact w2, fun z => ?_, t', w4, by rw [if_neg (by omega), if_neg (by omega), if_neg (by omega)]; exact w5, w6⟩
    obtain ⟨j, j1, j2⟩ := w3 z
    exact ⟨j, j1, by rw [if_neg (by omega), if_neg (by omega), if_neg (by omega)]; exact j2⟩
theorem rSp_inv {x y z : Int32} (h : rSp x y z s = .ok P' T' k') : ∃ P, s = .ok P T' k' ∧ P' = P.sp x y z := by
  cases s with
  | inr zz =>
    obtain ⟨f, pl⟩ := zz
    cases h
  | inl zz =>
    obtain ⟨P, T, k⟩ := zz
    cases h; exact ⟨P, rfl, rfl⟩
theorem rStep_inv {w : Nat} (hv : rV3 tk) (hW : dWR P) (hs : P.2.2.1 < 24) (hw : w < 4) (h : rStep tk w (.ok P T k) = .ok P' T' k') : k < k' ∧ dWR P' := by
  unfold rStep at h
  by_cases c2 : w = 2
  · rw [if_pos c2] at h
    obtain ⟨P1, h1, rfl⟩ := rSp_inv h
    obtain ⟨k1, h2, rfl, x, h3, h4⟩ := rNm_inv hv (by omega) (by omega) h1
    cases h2
    rw [h4]
    exact ⟨by omega, dWR_sp (w := 2) hW hs (by omega) (fun z => absurd rfl z) (by omega) (fun z => by omega)⟩
  · rw [if_neg c2] at h
    dsimp only at h
    by_cases c3 : w = 3
    · rw [if_pos c3] at h
      obtain ⟨P1, h1, rfl⟩ := rSp_inv h
      obtain ⟨k1, h2, rfl, x, h3, h4⟩ := rNm_inv hv (by omega) (by omega) h1
      obtain ⟨k0, h5, rfl, j, h6, h7⟩ := rTo_inv h2
      cases h5
      rw [h4, h7]
      exact ⟨by omega, dWR_sp (w := 3) hW hs (by omega) (fun z => ⟨j, h6, rfl⟩) (by omega) (fun z => by omega)⟩
    · rw [if_neg c3] at h
      obtain ⟨P1, h1, rfl⟩ := rSp_inv h
      obtain ⟨k0, h5, rfl, j, h6, h7⟩ := rTo_inv h1
      cases h5
      rw [h7]
      exact ⟨by omega, dWR_sp (t := 0) hW hs hw (fun z => ⟨j, h6, rfl⟩) (by omega) (fun z => by omega)⟩
theorem dWR_sg {j x : Nat} (hW : dWR P) (hj : j < 8) (h0 : j = 0 → 1 ≤ x ∧ x ≤ 999) (h1 : j = 1 → 1 ≤ x ∧ x ≤ 9999) (h2 : j = 2 → 1 ≤ x ∧ x ≤ 100) (h3 : j = 3 → 1 ≤ x ∧ x ≤ 9) (h4 : j = 4 → 0 ≤ x ∧ x ≤ 9) (h5 : j = 5 → 1 ≤ x ∧ x ≤ 99) (h6 : j = 6 → 1 ≤ x ∧ x ≤ 999999) (h7 : j = 7 → 0 ≤ x ∧ x ≤ 99999) : dWR (P.sg j (dn x)) := by
  have old : ∀ a i, a ≠ 14 → (P.sg j (dn x)).2.2.2 a i = P.2.2.2 a i := fun a i h => by unfold dP.sg; dsimp only; rw [if_neg (fun z => h z.1)]
  have key : ∀ {i l m : Nat}, (j = i → l ≤ x ∧ x ≤ m) → (∃ x, (l ≤ x ∧ x ≤ m) ∧ P.2.2.2 14 i = dn x) → ∃ y, (l ≤ y ∧ y ≤ m) ∧ (P.sg j (dn x)).2.2.2 14 i = dn y := fun {i l m} g h => by
    unfold dP.sg; dsimp only
    by_cases c : i = j
    · exact ⟨x, g c.symm, if_pos ⟨rfl, c⟩⟩
    · obtain ⟨y, y1, y2⟩ := h
      exact ⟨y, y1, by rw [if_neg (fun z => c z.2)]; exact y2⟩
  exact ⟨hW.n, hW.m, hW.st, fun i hi => by rw [old _ _ (by omega)]; exact hW.pr i hi, fun i hi => by rw [old _ _ (by omega)]; exact hW.lv i hi, fun i hi => by rw [old _ _ (by omega)]; exact hW.rp i hi, fun i hi => by rw [old _ _ (by omega)]; exact hW.ch i hi, fun i hi => by rw [old _ _ (by omega)]; exact hW.ld i hi, fun i hi => by rw [old _ _ (by omega)]; exact hW.lm i hi, fun i hi => by rw [old _ _ (by omega)]; exact hW.nd i hi, fun i hi => by rw [old _ _ (by omega), old _ _ (by omega), old _ _ (by omega)]; exact hW.s i hi, key h0 hW.e0, key h1 hW.e1, key h2 hW.e2, key h3 hW.e3, key h4 hW.e4, key h5 hW.e5, key h6 hW.e6, key h7 hW.e7⟩
theorem rSett_inv {w : Nat} (hv : rV3 tk) (hW : dWR P) (h : rSett tk w (.ok P T k) = .ok P' T' k') : k < k' ∧ dWR P' := by
  have one : ∀ {j l m : Nat} {P : dP} {k : Nat} {T : Nat → Bool}, dWR P → m < 1000000 → l ≤ m → rNs tk j l m (.ok P T k) = .ok P' T' k' → (∀ x, l ≤ x ∧ x ≤ m → dWR P → dWR (P.sg j (dn x))) → k < k' ∧ dWR P' := fun hW hm hl h g => by
    obtain ⟨P1, k1, h1, rfl, x, h2, rfl⟩ := rNs_inv hv hm hl h
    cases h1
    exact ⟨by omega, g x h2 hW⟩
  unfold rSett at h
  by_cases d0 : w = 0
  · rw [if_pos d0] at h
    exact one hW (by omega) (by omega) h fun x hx hW => dWR_sg hW (by omega) (by omega) (by omega) (by omega) (by omega) (by omega) (by omega) (by omega) (by omega)
  rw [if_neg d0] at h
  by_cases d1 : w = 1
  · rw [if_pos d1] at h
    exact one hW (by omega) (by omega) h fun x hx hW => dWR_sg hW (by omega) (by omega) (by omega) (by omega) (by omega) (by omega) (by omega) (by omega) (by omega)
  rw [if_neg d1] at h
  by_cases d2 : w = 2
  · rw [if_pos d2] at h
    exact one hW (by omega) (by omega) h fun x hx hW => dWR_sg hW (by omega) (by omega) (by omega) (by omega) (by omega) (by omega) (by omega) (by omega) (by omega)
  rw [if_neg d2] at h
  by_cases d3 : w = 3
  · rw [if_pos d3] at h
    exact one hW (by omega) (by omega) h fun x hx hW => dWR_sg hW (by omega) (by omega) (by omega) (by omega) (by omega) (by omega) (by omega) (by omega) (by omega)
  rw [if_neg d3] at h
  by_cases d4 : w = 4
  · rw [if_pos d4] at h
    cases e : rNs tk 4 0 9 (.ok P T k) with
    | inr zz =>
      obtain ⟨f, pl⟩ := zz
      rw [e] at h; cases h
    | inl zz =>
      obtain ⟨P1, T1, k1⟩ := zz
      rw [e] at h
      obtain ⟨P2, k2, h1, h2, x, h3, h4⟩ := rNs_inv hv (by omega) (by omega) e
      cases h1
      have hW1 : dWR P1 := by rw [h4]; exact dWR_sg hW (by omega) (by omega) (by omega) (by omega) (by omega) (by omega) (by omega) (by omega) (by omega)
      have := one hW1 (by omega) (by omega) h fun x hx hW => dWR_sg hW (by omega) (by omega) (by omega) (by omega) (by omega) (by omega) (by omega) (by omega) (by omega)
      exact ⟨by omega, this.2⟩
  rw [if_neg d4] at h
  by_cases d5 : w = 5
  · rw [if_pos d5] at h
    exact one hW (by omega) (by omega) h fun x hx hW => dWR_sg hW (by omega) (by omega) (by omega) (by omega) (by omega) (by omega) (by omega) (by omega) (by omega)
  rw [if_neg d5] at h
  exact one hW (by omega) (by omega) h fun x hx hW => dWR_sg hW (by omega) (by omega) (by omega) (by omega) (by omega) (by omega) (by omega) (by omega) (by omega)
theorem rTk_inv {w : Nat} (h : rTk tk w s = .ok P' T' k') : ∃ k, s = .ok P' T' k ∧ k' = k + 1 := by
  cases s with
  | inr zz =>
    obtain ⟨f, pl⟩ := zz
    cases h
  | inl zz =>
    obtain ⟨P, T, k⟩ := zz
    rw [rTk_ok] at h
    by_cases c : (tk k).1 = w
    · rw [if_pos c] at h; cases h; exact ⟨k, rfl, rfl⟩
    · rw [if_neg c] at h; cases h
theorem rLine_inv (hv : rV3 tk) (hW : dWR P) (h : rLine tk (.ok P T k) = .ok P' T' k') : k < k' ∧ dWR P' := by
  have hn := hW.n
  have hm := hW.m
  have hst := hW.st
  replace h : (if (tk k).1 = 2 ∧ (tk k).2.1 ≠ 13 then rTk tk 4 (rBody tk P T k (tk k).2.1.toNatClampNeg) else .bad 1 (tk k).2.2.2.1) = .ok P' T' k' := h
  by_cases c : (tk k).1 = 2 ∧ (tk k).2.1 ≠ 13
  · rw [if_pos c] at h
    obtain ⟨k1, h1, rfl⟩ := rTk_inv h
    generalize (tk k).2.1.toNatClampNeg = i at h1
    unfold rBody at h1
    have fin : (k + 1 < k1 ∧ dWR P') → k < k1 + 1 ∧ dWR P' := fun z => ⟨by omega, z.2⟩
    by_cases d0 : i = 0
    · rw [if_pos d0] at h1
      by_cases c1 : P.1 = 12
      · rw [if_pos c1] at h1; cases h1
      · rw [if_neg c1] at h1; exact fin (rRail_inv hv hW (by omega) h1)
    rw [if_neg d0] at h1
    by_cases d1 : i = 1
    · rw [if_pos d1] at h1
      by_cases c1 : P.2.1 = 20
      · rw [if_pos c1] at h1; cases h1
      · rw [if_neg c1] at h1; exact fin (rNeed_inv hW (by omega) h1)
    rw [if_neg d1] at h1
    by_cases d6 : i < 6
    · rw [if_pos d6] at h1
      by_cases c1 : P.2.2.1 = 24
      · rw [if_pos c1] at h1; cases h1
      · rw [if_neg c1] at h1; exact fin (rStep_inv hv hW (by omega) (by omega) h1)
    rw [if_neg d6] at h1
    by_cases c1 : T i = true
    · rw [if_pos c1] at h1; cases h1
    · rw [if_neg c1] at h1; exact fin (rSett_inv hv hW h1)
  · rw [if_neg c] at h; cases h
end I1
end
