/-! the texts: their lengths and letters -/
def px_chr (i j : Nat) : Int32 := (px_byt.getD i []).getD j 0 &&& 255
def y_St_length : MethodName := ⟨"java/lang/String", "length", "()I"⟩
def y_St_charAt : MethodName := ⟨"java/lang/String", "charAt", "(I)C"⟩
def px_str (own : String) (idx i : Nat) : Prop := (own = "PowerRailsModel" ∧ idx = 138 ∧ i = 0) ∨ (own = "PowerRails$Reader" ∧ idx = 198 ∧ i = 1)
section PXT
variable {l : Launch} {d : Nat} {y : MethodName} {cc : ByteArray} {nL : Nat} {ret : Option FieldType} {pc : Nat} {L : List (Nat × pxV)} {st : List pxV} {ids : List pxI} {G : pxG} {σ : pxS} {Rt : Option pxV → List pxI → pxG → pxS → Prop} {i idx iv : Nat}
theorem pw_slen {v : Int32} (hd1 : decode cc pc = .ok (.ldc idx, 2)) (hd2 : decode cc (pc + 2) = .ok (.invokevirtual iv, 3)) (hs : px_str y.cls idx i) (hw : Cond.methodLink y.cls iv y_St_length ∈ pxW) (hv : Int32.ofNat (px_len.getD i 0) = v) (hd : 6 ≤ d) (h8 : st.length ≤ 6)
    (h : pw l (px_R d) y cc nL ret (pc + 2 + 3) L (.inl v :: st) ids G σ 0 0 Rt) : pw l (px_R d) y cc nL ret pc L st ids G σ 0 0 Rt := sorry
theorem pw_sch1 {a : Fin 4} {ai : Nat} {x : Int32} (qa : Nat) (hd1 : decode cc pc = .ok (.ldc idx, 2)) (hd2 : decode cc (pc + 2) = .ok (.iload_n a, 1)) (hd3 : decode cc (pc + 2 + 1) = .ok (.invokevirtual iv, 3)) (ha : (a : Nat) = ai) (hqa : L[qa]? = some (ai, .inl x)) (hs : px_str y.cls idx i) (hw : Cond.methodLink y.cls iv y_St_charAt ∈ pxW) (hin : vp_in x (px_len.getD i 0)) (hd : 6 ≤ d) (h8 : st.length ≤ 6)
    (h : pw l (px_R d) y cc nL ret (pc + 2 + 1 + 3) L (.inl (px_chr i x.toNatClampNeg) :: st) ids G σ 0 0 Rt) : pw l (px_R d) y cc nL ret pc L st ids G σ 0 0 Rt := sorry
theorem pw_sch2 {a b : Fin 4} {ai bi : Nat} {x z : Int32} (qa qb : Nat) (hd1 : decode cc pc = .ok (.ldc idx, 2)) (hd2 : decode cc (pc + 2) = .ok (.iload_n a, 1)) (hd3 : decode cc (pc + 2 + 1) = .ok (.iload_n b, 1)) (hd4 : decode cc (pc + 2 + 1 + 1) = .ok (.iadd, 1)) (hd5 : decode cc (pc + 2 + 1 + 1 + 1) = .ok (.invokevirtual iv, 3)) (ha : (a : Nat) = ai) (hqa : L[qa]? = some (ai, .inl x)) (hb : (b : Nat) = bi) (hqb : L[qb]? = some (bi, .inl z)) (hs : px_str y.cls idx i) (hw : Cond.methodLink y.cls iv y_St_charAt ∈ pxW) (hin : vp_in (x + z) (px_len.getD i 0)) (hd : 6 ≤ d) (h8 : st.length ≤ 6)
    (h : pw l (px_R d) y cc nL ret (pc + 2 + 1 + 1 + 1 + 3) L (.inl (px_chr i (x + z).toNatClampNeg) :: st) ids G σ 0 0 Rt) : pw l (px_R d) y cc nL ret pc L st ids G σ 0 0 Rt := sorry
end PXT
