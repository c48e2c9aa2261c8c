/-! calls in the form that a program lays -/
def px_yV (own : String) (idx ci : Nat) (y : MethodName) (cc : ByteArray) (nL : Nat) (ret : Option FieldType) (N : Nat) : Prop := px_y own idx y cc nL ret N ∧ Cond.instanceMethod y ∈ pxW ∧ Cond.selects y.cls y y ∈ pxW ∧ (classes[ci]?).map (fun q => q.1) = some y.cls
def px_yS (own : String) (idx : Nat) (y : MethodName) (cc : ByteArray) (nL : Nat) (ret : Option FieldType) (N : Nat) : Prop := px_y own idx y cc nL ret N ∧ Cond.static y ∈ pxW
section PXD
variable {l : Launch} {d d' : Nat} {y : MethodName} {cc : ByteArray} {nL : Nat} {ret : Option FieldType} {pc : Nat} {L : List (Nat × pxV)} {ids : List pxI} {G : pxG} {σ σ2 : pxS} {Rt : Option pxV → List pxI → pxG → pxS → Prop}
  {idx ci N : Nat} {y' : MethodName} {cc' : ByteArray} {nL' : Nat} {ret' : Option FieldType} {sl : List pxK} {st0 : List pxV} {r : Int32}
theorem pw_cV1 (o : pxI) (xs st : List pxV) (hd : decode cc pc = .ok (.invokevirtual idx, 3)) (hw : px_yV y.cls idx ci y' cc' nL' ret' N) (hG : G o = .inr (.inr (ci, sl))) (hst : st0 = xs.reverse ++ .inr (some o) :: st) (hN : xs.length = N) (h8 : st.length ≤ 8) (hR : d' + 1 ≤ d ∧ 8 + (nL' + 11) + 40 * d' ≤ 40 * d)
    (hm : pm l y' cc' nL' ret' (px_R d') (.inr (some o) :: xs) ids G σ (px_r (some (.inl r)) ids G σ2)) (h : pw l (px_R d) y cc nL ret (pc + 3) L (.inl r :: st) ids G σ2 0 0 Rt) : pw l (px_R d) y cc nL ret pc L st0 ids G σ 0 0 Rt :=
  pw_callV (R' := px_R d') xs hd hw.1 hw.2.1 hw.2.2.1 hw.2.2.2 hG hst hN h8 hR ⟨Nat.le_refl 0, Nat.le_refl 0⟩ hm (px_k1 h)
theorem pw_cV0 (o : pxI) (xs st : List pxV) (hd : decode cc pc = .ok (.invokevirtual idx, 3)) (hw : px_yV y.cls idx ci y' cc' nL' ret' N) (hG : G o = .inr (.inr (ci, sl))) (hst : st0 = xs.reverse ++ .inr (some o) :: st) (hN : xs.length = N) (h8 : st.length ≤ 8) (hR : d' + 1 ≤ d ∧ 8 + (nL' + 11) + 40 * d' ≤ 40 * d)
    (hm : pm l y' cc' nL' ret' (px_R d') (.inr (some o) :: xs) ids G σ (px_r none ids G σ2)) (h : pw l (px_R d) y cc nL ret (pc + 3) L st ids G σ2 0 0 Rt) : pw l (px_R d) y cc nL ret pc L st0 ids G σ 0 0 Rt :=
  pw_callV (R' := px_R d') xs hd hw.1 hw.2.1 hw.2.2.1 hw.2.2.2 hG hst hN h8 hR ⟨Nat.le_refl 0, Nat.le_refl 0⟩ hm (px_k0 h)
theorem pw_cS1 (xs st : List pxV) (hd : decode cc pc = .ok (.invokestatic idx, 3)) (hw : px_yS y.cls idx y' cc' nL' ret' N) (hst : st0 = xs.reverse ++ st) (hN : xs.length = N) (h8 : st.length ≤ 8) (hR : d' + 1 ≤ d ∧ 8 + (nL' + 11) + 40 * d' ≤ 40 * d)
    (hm : pm l y' cc' nL' ret' (px_R d') xs ids G σ (px_r (some (.inl r)) ids G σ2)) (h : pw l (px_R d) y cc nL ret (pc + 3) L (.inl r :: st) ids G σ2 0 0 Rt) : pw l (px_R d) y cc nL ret pc L st0 ids G σ 0 0 Rt :=
  pw_callS (R' := px_R d') xs hd hw.1 hw.2 hst hN h8 hR ⟨Nat.le_refl 0, Nat.le_refl 0⟩ hm (px_k1 h)
theorem pw_cS0 (xs st : List pxV) (hd : decode cc pc = .ok (.invokestatic idx, 3)) (hw : px_yS y.cls idx y' cc' nL' ret' N) (hst : st0 = xs.reverse ++ st) (hN : xs.length = N) (h8 : st.length ≤ 8) (hR : d' + 1 ≤ d ∧ 8 + (nL' + 11) + 40 * d' ≤ 40 * d)
    (hm : pm l y' cc' nL' ret' (px_R d') xs ids G σ (px_r none ids G σ2)) (h : pw l (px_R d) y cc nL ret (pc + 3) L st ids G σ2 0 0 Rt) : pw l (px_R d) y cc nL ret pc L st0 ids G σ 0 0 Rt :=
  pw_callS (R' := px_R d') xs hd hw.1 hw.2 hst hN h8 hR ⟨Nat.le_refl 0, Nat.le_refl 0⟩ hm (px_k0 h)
end PXD
/-! what the cells of the class, and of the reference, are -/
def cG : pxG := fun i => match i with
  | (0, _, _) => .inr (.inr (0, [some (.inr (some (5, 0, 0))), some (.inr (some (6, 0, 0))), some (.inr (some (7, 0, 0))), some (.inr (some (2, 0, 0))), some (.inr (some (2, 1, 0))), some (.inr (some (2, 2, 0))), some (.inl 1), none, none, none, none, none, none]))
  | (1, p, _) => .inr (.inr (1, [none, none, none, some (.inr (some (8, p, 0))), some (.inr (some (8, p, 1))), some (.inr (some (8, p, 2))), some (.inr (some (8, p, 3))), some (.inr (some (8, p, 4))), some (.inr (some (8, p, 5))), some (.inr (some (8, p, 6))), some (.inr (some (8, p, 7))), some (.inr (some (8, p, 8))), some (.inr (some (8, p, 9))), some (.inr (some (8, p, 10))), some (.inr (some (8, p, 11))), some (.inr (some (8, p, 12))), some (.inr (some (8, p, 13))), some (.inr (some (8, p, 14)))]))
  | (2, k, _) => .inr (.inr (2, [some (.inr (some (9, k, 0))), some (.inr (some (4, k, 0))), some (.inr (some (4, k, 1))), some (.inr (some (11, k, 0))), some (.inl 1), none, none, none, none, none, none]))
  | (3, _, _) => .inr (.inr (3, [none, none, none, none, none, none, none, none, none, none, none, none, none]))
  | (4, k, w) => .inr (.inr (4, [some (.inr (some (10, k, w))), none, none]))
  | (5, _, _) => .inl (1, 700)
  | (6, _, _) => .inr (.inr (5, [some (.inl 1), none, none, some (.inr (some (12, 0, 0))), some (.inr (some (12, 1, 0))), some (.inr (some (12, 2, 0))), some (.inr (some (12, 3, 0))), none, some (.inr (some (5, 0, 0))), none, none, none, none, none, none]))
  | (7, _, _) => .inr (.inl (3, 20, fun j => some (2, j + 3, 0)))
  | (8, _, 11) => .inl (0, 24)
  | (8, _, 12) => .inl (0, 24)
  | (8, _, 13) => .inl (0, 24)
  | (8, _, 14) => .inl (0, 8)
  | (8, _, _) => .inl (0, 12)
  | (9, k, _) => .inr (.inl (4, 12, fun j => some (3, k, j)))
  | (10, _, _) => .inl (0, 12)
  | (11, _, _) => .inl (0, 40)
  | (12, 0, _) => .inl (0, 14)
  | (12, _, _) => .inl (0, 701)
  | (_, _, _) => .inl (0, 0)
def mGn (a : Nat) : Nat × Nat := match a with
  | 1 => (0, 700)
  | 3 => (0, 22)
  | 4 => (2, 14)
  | 5 => (0, 24)
  | 6 => (0, 24)
  | 7 => (0, 24)
  | 8 => (0, 24)
  | 9 => (0, 24)
  | 10 => (0, 24)
  | 11 => (0, 24)
  | 12 => (0, 24)
  | 13 => (0, 48)
  | 14 => (0, 48)
  | 15 => (0, 48)
  | 26 => (0, 12)
  | 27 => (0, 12)
  | 28 => (0, 308)
  | 29 => (0, 308)
  | 30 => (0, 308)
  | 31 => (0, 6160)
  | 34 => (0, 12)
  | 35 => (0, 12)
  | 36 => (0, 12)
  | 37 => (0, 12)
  | 39 => (0, 4096)
  | _ => (0, 0)
def mG : pxG := fun i => match i with
  | (0, _, _) => .inr (.inr (6, [none, some (.inr (some (1, 1, 0))), none, some (.inr (some (1, 3, 0))), some (.inr (some (1, 4, 0))), some (.inr (some (1, 5, 0))), some (.inr (some (1, 6, 0))), some (.inr (some (1, 7, 0))), some (.inr (some (1, 8, 0))), some (.inr (some (1, 9, 0))), some (.inr (some (1, 10, 0))), some (.inr (some (1, 11, 0))), some (.inr (some (1, 12, 0))), some (.inr (some (1, 13, 0))), some (.inr (some (1, 14, 0))), some (.inr (some (1, 15, 0))), none, none, none, none, none, none, none, none, none, none, some (.inr (some (1, 26, 0))), some (.inr (some (1, 27, 0))), some (.inr (some (1, 28, 0))), some (.inr (some (1, 29, 0))), some (.inr (some (1, 30, 0))), some (.inr (some (1, 31, 0))), none, none, some (.inr (some (1, 34, 0))), some (.inr (some (1, 35, 0))), some (.inr (some (1, 36, 0))), some (.inr (some (1, 37, 0))), none, some (.inr (some (1, 39, 0))), none]))
  | (_, a, _) => .inl (mGn a)
