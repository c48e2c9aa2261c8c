/-! Or_allLoads -/
def Or_allLoads_n4 (σ : pxS) (k0 : Nat) (v1 : Int32) (v2 : Int32) : Option ((Int32 × Int32) ⊕ (Int32)) :=
  (if (σ (1, (σ (2, k0, 0) 4).toNatClampNeg, 0) 0) ≤ v2 then some (.inr v1) else px_gd v2 12 (some (.inl ((v1 + (σ (3, k0, v2.toNatClampNeg) 0)), (v2 + 1)))))
set_option maxRecDepth 100000 in
theorem Or_allLoads_n4_l {l : Launch} {ids : List pxI} {Rt : Option pxV → List pxI → pxG → pxS → Prop} {σ : pxS} {k0 : Nat} {v1 : Int32} {v2 : Int32} {o : (Int32 × Int32) ⊕ (Int32)} (h : Or_allLoads_n4 σ k0 v1 v2 = some o) (hC : ∀ s, o = .inl s → pw l (px_R 1) y_Or_allLoads c_Or_allLoads 3 (some .int) 4 [(0, .inr (some (2, k0, 0))), (1, .inl s.1), (2, .inl s.2)] [] ids cG σ 0 0 Rt) (hX0 : ∀ e, o = .inr e → pw l (px_R 1) y_Or_allLoads c_Or_allLoads 3 (some .int) 33 [(1, .inl e)] [] ids cG σ 0 0 Rt) : pw l (px_R 1) y_Or_allLoads c_Or_allLoads 3 (some .int) 4 [(0, .inr (some (2, k0, 0))), (1, .inl v1), (2, .inl v2)] [] ids cG σ 0 0 Rt := by
  unfold Or_allLoads_n4 at h
  refine pw_iload_n 2 (px_at td_Or_allLoads 4 rfl) rfl rfl ?_
  refine pw_aload_n 0 (px_at td_Or_allLoads 5 rfl) rfl rfl ?_
  refine pw_getf (v := .inr (some (1, (σ (2, k0, 0) 4).toNatClampNeg, 0))) (px_at td_Or_allLoads 6 rfl) lf_Or_9 rfl rfl rfl ?_
  refine pw_getf (v := .inl (σ (1, (σ (2, k0, 0) 4).toNatClampNeg, 0) 0)) (px_at td_Or_allLoads 7 rfl) lf_Or_62 rfl rfl rfl ?_
  rcases px_ite h with ⟨hc2, h⟩ | ⟨hc2, h⟩
  · refine pw_icmp_ge 33 (px_at td_Or_allLoads 8 rfl) (by decide) (fun _ => ?_) (fun hn => absurd hc2 hn)
    refine pw_L [(1, .inl v1)] [1] rfl ?_
    exact hX0 v1 (Option.some.inj h).symm
  · refine pw_icmp_ge 33 (px_at td_Or_allLoads 8 rfl) (by decide) (fun hn => absurd hn hc2) (fun _ => ?_)
    refine pw_iload_n 1 (px_at td_Or_allLoads 9 rfl) rfl rfl ?_
    refine pw_aload_n 0 (px_at td_Or_allLoads 10 rfl) rfl rfl ?_
    refine pw_getf (v := .inr (some (9, k0, 0))) (px_at td_Or_allLoads 11 rfl) lf_Or_40 rfl rfl rfl ?_
    refine pw_iload_n 2 (px_at td_Or_allLoads 12 rfl) rfl rfl ?_
    obtain ⟨hi1, h⟩ := px_gd_e h
    refine pw_aald (r := (3, k0, v2.toNatClampNeg)) (px_at td_Or_allLoads 13 rfl) rfl (fun _ => rfl) hi1 rfl ?_
    refine pw_getf (v := .inl (σ (3, k0, v2.toNatClampNeg) 0)) (px_at td_Or_allLoads 14 rfl) lf_Or_44 rfl rfl rfl ?_
    refine pw_iadd (px_at td_Or_allLoads 15 rfl) ?_
    refine pw_istore_n (L' := [(1, .inl (v1 + (σ (3, k0, v2.toNatClampNeg) 0))), (0, .inr (some (2, k0, 0))), (2, .inl v2)]) (px_at td_Or_allLoads 16 rfl) rfl (by decide) rfl ?_
    refine pw_iinc (q := 2) (v := (v2 + 1)) (L' := [(2, .inl (v2 + 1)), (1, .inl (v1 + (σ (3, k0, v2.toNatClampNeg) 0))), (0, .inr (some (2, k0, 0)))]) (px_at td_Or_allLoads 17 rfl) rfl rfl (by decide) rfl ?_
    refine pw_goto 4 (px_at td_Or_allLoads 18 rfl) (by decide) ?_
    refine pw_L [(0, .inr (some (2, k0, 0))), (1, .inl (v1 + (σ (3, k0, v2.toNatClampNeg) 0))), (2, .inl (v2 + 1))] [2, 1, 0] rfl ?_
    exact hC ((v1 + (σ (3, k0, v2.toNatClampNeg) 0)), (v2 + 1)) (Option.some.inj h).symm
def Or_allLoads_L4 (σ : pxS) (k0 : Nat) : (Int32 × Int32) → Option ((Int32 × Int32) ⊕ (Int32)) := fun s => Or_allLoads_n4 σ k0 s.1 s.2
set_option maxRecDepth 100000 in
theorem Or_allLoads_L4_l {l : Launch} {ids : List pxI} {Rt : Option pxV → List pxI → pxG → pxS → Prop} {σ : pxS} {k0 : Nat} {n : Nat} {s : Int32 × Int32} {e : Int32} (h : px_it (Or_allLoads_L4 σ k0) n s = some e) (hX0 : pw l (px_R 1) y_Or_allLoads c_Or_allLoads 3 (some .int) 33 [(1, .inl e)] [] ids cG σ 0 0 Rt) : pw l (px_R 1) y_Or_allLoads c_Or_allLoads 3 (some .int) 4 [(0, .inr (some (2, k0, 0))), (1, .inl s.1), (2, .inl s.2)] [] ids cG σ 0 0 Rt := by
  refine px_it_rule (f := Or_allLoads_L4 σ k0) (C := fun s => pw l (px_R 1) y_Or_allLoads c_Or_allLoads 3 (some .int) 4 [(0, .inr (some (2, k0, 0))), (1, .inl s.1), (2, .inl s.2)] [] ids cG σ 0 0 Rt) (X := fun e => (pw l (px_R 1) y_Or_allLoads c_Or_allLoads 3 (some .int) 33 [(1, .inl e)] [] ids cG σ 0 0 Rt)) ?_ ?_ n s e h hX0
  · intro s s1 hf hC
    exact Or_allLoads_n4_l hf (fun s2 hs => by cases hs; exact hC) (fun e he => by cases he)
  · intro s e hf hX
    exact Or_allLoads_n4_l hf (fun s2 hs => by cases hs) (fun e1 he => by cases he; exact hX)
def F_Or_allLoads (σ : pxS) (k0 : Nat) : Option (Int32) :=
  px_b1 (px_it (Or_allLoads_L4 σ k0) px_N (0, 0)) fun e3 =>
  some (e3)
set_option maxRecDepth 100000 in
theorem e_Or_allLoads {l : Launch} {ids : List pxI} {Rt : Option pxV → List pxI → pxG → pxS → Prop} {σ : pxS} {k0 : Nat} {res : Int32} (h : F_Or_allLoads σ k0 = some res) (hR : Rt (some (.inl res)) ids cG σ) : pw l (px_R 1) y_Or_allLoads c_Or_allLoads 3 (some .int) 0 [(0, .inr (some (2, k0, 0)))] [] ids cG σ 0 0 Rt := by
  unfold F_Or_allLoads at h
  refine pw_iconst (v := 0) (px_at td_Or_allLoads 0 rfl) (by decide) ?_
  refine pw_istore_n (L' := [(1, .inl 0), (0, .inr (some (2, k0, 0)))]) (px_at td_Or_allLoads 1 rfl) rfl (by decide) rfl ?_
  refine pw_iconst (v := 0) (px_at td_Or_allLoads 2 rfl) (by decide) ?_
  refine pw_istore_n (L' := [(2, .inl 0), (1, .inl 0), (0, .inr (some (2, k0, 0)))]) (px_at td_Or_allLoads 3 rfl) rfl (by decide) rfl ?_
  obtain ⟨e3, he3, h⟩ := px_b1_e h
  refine pw_L [(0, .inr (some (2, k0, 0))), (1, .inl 0), (2, .inl 0)] [2, 1, 0] rfl ?_
  refine Or_allLoads_L4_l he3 ?_
  refine pw_iload_n 0 (px_at td_Or_allLoads 19 rfl) rfl rfl ?_
  obtain rfl := Option.some.inj h
  exact pw_iret (px_at td_Or_allLoads 20 rfl) rfl (Nat.le_refl 0) (Nat.le_refl 0) hR
theorem k_Or_allLoads {l : Launch} {ids : List pxI} {σ : pxS} {k0 : Nat} {res : Int32} (h : F_Or_allLoads σ k0 = some res) : pm l y_Or_allLoads c_Or_allLoads 3 (some .int) (px_R 1) [.inr (some (2, k0, 0))] ids cG σ (px_r (some (.inl res)) ids cG σ) :=
  pm_ofF (by decide +kernel) (Nat.le_of_ble_eq_true rfl) (e_Or_allLoads h ⟨rfl, rfl, rfl, rfl⟩)
/-! Or_leastSurge -/
def Or_leastSurge_n40 (σ : pxS) (p0 : Int32) (v1 : Int32) (v2 : Int32) (v3 : Int32) : Option ((Int32 × Int32) ⊕ (Int32)) :=
  some (.inl (v2, (v3 + 1)))
set_option maxRecDepth 100000 in
theorem Or_leastSurge_n40_l {l : Launch} {ids : List pxI} {Rt : Option pxV → List pxI → pxG → pxS → Prop} {σ : pxS} {p0 : Int32} {v1 : Int32} {v2 : Int32} {v3 : Int32} {o : (Int32 × Int32) ⊕ (Int32)} (h : Or_leastSurge_n40 σ p0 v1 v2 v3 = some o) (hC : ∀ s, o = .inl s → pw l (px_R 2) y_Or_leastSurge c_Or_leastSurge 4 (some .int) 5 [(0, .inr (some (1, p0.toNatClampNeg, 0))), (1, .inl v1), (2, .inl s.1), (3, .inl s.2)] [] ids cG σ 0 0 Rt) (hX0 : ∀ e, o = .inr e → pw l (px_R 2) y_Or_leastSurge c_Or_leastSurge 4 (some .int) 46 [(2, .inl e)] [] ids cG σ 0 0 Rt) : pw l (px_R 2) y_Or_leastSurge c_Or_leastSurge 4 (some .int) 40 [(0, .inr (some (1, p0.toNatClampNeg, 0))), (1, .inl v1), (2, .inl v2), (3, .inl v3)] [] ids cG σ 0 0 Rt := by
  unfold Or_leastSurge_n40 at h
  refine pw_iinc (q := 3) (v := (v3 + 1)) (L' := [(3, .inl (v3 + 1)), (0, .inr (some (1, p0.toNatClampNeg, 0))), (1, .inl v1), (2, .inl v2)]) (px_at td_Or_leastSurge 25 rfl) rfl rfl (by decide) rfl ?_
  refine pw_goto 5 (px_at td_Or_leastSurge 26 rfl) (by decide) ?_
  refine pw_L [(0, .inr (some (1, p0.toNatClampNeg, 0))), (1, .inl v1), (2, .inl v2), (3, .inl (v3 + 1))] [1, 2, 3, 0] rfl ?_
  exact hC (v2, (v3 + 1)) (Option.some.inj h).symm
def Or_leastSurge_n38 (σ : pxS) (p0 : Int32) (v1 : Int32) (v3 : Int32) : Option ((Int32 × Int32) ⊕ (Int32)) :=
  Or_leastSurge_n40 σ p0 v1 v3 v3
set_option maxRecDepth 100000 in
theorem Or_leastSurge_n38_l {l : Launch} {ids : List pxI} {Rt : Option pxV → List pxI → pxG → pxS → Prop} {σ : pxS} {p0 : Int32} {v1 : Int32} {v3 : Int32} {o : (Int32 × Int32) ⊕ (Int32)} (h : Or_leastSurge_n38 σ p0 v1 v3 = some o) (hC : ∀ s, o = .inl s → pw l (px_R 2) y_Or_leastSurge c_Or_leastSurge 4 (some .int) 5 [(0, .inr (some (1, p0.toNatClampNeg, 0))), (1, .inl v1), (2, .inl s.1), (3, .inl s.2)] [] ids cG σ 0 0 Rt) (hX0 : ∀ e, o = .inr e → pw l (px_R 2) y_Or_leastSurge c_Or_leastSurge 4 (some .int) 46 [(2, .inl e)] [] ids cG σ 0 0 Rt) : pw l (px_R 2) y_Or_leastSurge c_Or_leastSurge 4 (some .int) 38 [(0, .inr (some (1, p0.toNatClampNeg, 0))), (1, .inl v1), (3, .inl v3)] [] ids cG σ 0 0 Rt := by
  unfold Or_leastSurge_n38 at h
  refine pw_iload_n 2 (px_at td_Or_leastSurge 23 rfl) rfl rfl ?_
  refine pw_istore_n (L' := [(2, .inl v3), (0, .inr (some (1, p0.toNatClampNeg, 0))), (1, .inl v1), (3, .inl v3)]) (px_at td_Or_leastSurge 24 rfl) rfl (by decide) rfl ?_
  refine pw_L [(0, .inr (some (1, p0.toNatClampNeg, 0))), (1, .inl v1), (2, .inl v3), (3, .inl v3)] [1, 2, 0, 3] rfl ?_
  exact Or_leastSurge_n40_l h hC hX0
def Or_leastSurge_n5 (σ : pxS) (p0 : Int32) (v1 : Int32) (v2 : Int32) (v3 : Int32) : Option ((Int32 × Int32) ⊕ (Int32)) :=
  (if (σ (1, p0.toNatClampNeg, 0) 0) ≤ v3 then some (.inr v2) else (if ((v1 >>> (v3 &&& 31)) &&& 1) = 0 then Or_leastSurge_n40 σ p0 v1 v2 v3 else (if v2 < 0 then Or_leastSurge_n38 σ p0 v1 v3 else px_b1 (F_Pl_surge σ p0 v3) fun r1 =>
  px_b1 (F_Pl_surge σ p0 v2) fun r2 =>
  (if r2 ≤ r1 then Or_leastSurge_n40 σ p0 v1 v2 v3 else Or_leastSurge_n38 σ p0 v1 v3))))
set_option maxRecDepth 100000 in
theorem Or_leastSurge_n5_l {l : Launch} {ids : List pxI} {Rt : Option pxV → List pxI → pxG → pxS → Prop} {σ : pxS} {p0 : Int32} {v1 : Int32} {v2 : Int32} {v3 : Int32} {o : (Int32 × Int32) ⊕ (Int32)} (h : Or_leastSurge_n5 σ p0 v1 v2 v3 = some o) (hC : ∀ s, o = .inl s → pw l (px_R 2) y_Or_leastSurge c_Or_leastSurge 4 (some .int) 5 [(0, .inr (some (1, p0.toNatClampNeg, 0))), (1, .inl v1), (2, .inl s.1), (3, .inl s.2)] [] ids cG σ 0 0 Rt) (hX0 : ∀ e, o = .inr e → pw l (px_R 2) y_Or_leastSurge c_Or_leastSurge 4 (some .int) 46 [(2, .inl e)] [] ids cG σ 0 0 Rt) : pw l (px_R 2) y_Or_leastSurge c_Or_leastSurge 4 (some .int) 5 [(0, .inr (some (1, p0.toNatClampNeg, 0))), (1, .inl v1), (2, .inl v2), (3, .inl v3)] [] ids cG σ 0 0 Rt := by
  unfold Or_leastSurge_n5 at h
  refine pw_iload_n 3 (px_at td_Or_leastSurge 4 rfl) rfl rfl ?_
  refine pw_aload_n 0 (px_at td_Or_leastSurge 5 rfl) rfl rfl ?_
  refine pw_getf (v := .inl (σ (1, p0.toNatClampNeg, 0) 0)) (px_at td_Or_leastSurge 6 rfl) lf_Or_62 rfl rfl rfl ?_
  rcases px_ite h with ⟨hc6, h⟩ | ⟨hc6, h⟩
  · refine pw_icmp_ge 46 (px_at td_Or_leastSurge 7 rfl) (by decide) (fun _ => ?_) (fun hn => absurd hc6 hn)
    refine pw_L [(2, .inl v2)] [2] rfl ?_
    exact hX0 v2 (Option.some.inj h).symm
  · refine pw_icmp_ge 46 (px_at td_Or_leastSurge 7 rfl) (by decide) (fun hn => absurd hn hc6) (fun _ => ?_)
    refine pw_iload_n 1 (px_at td_Or_leastSurge 8 rfl) rfl rfl ?_
    refine pw_iload_n 3 (px_at td_Or_leastSurge 9 rfl) rfl rfl ?_
    refine pw_ishr (px_at td_Or_leastSurge 10 rfl) ?_
    refine pw_iconst (v := 1) (px_at td_Or_leastSurge 11 rfl) (by decide) ?_
    refine pw_iand (px_at td_Or_leastSurge 12 rfl) ?_
    rcases px_ite h with ⟨hc5, h⟩ | ⟨hc5, h⟩
    · refine pw_if_eq 40 (px_at td_Or_leastSurge 13 rfl) (by decide) (fun _ => ?_) (fun hn => absurd hc5 hn)
      exact Or_leastSurge_n40_l h hC hX0
    · refine pw_if_eq 40 (px_at td_Or_leastSurge 13 rfl) (by decide) (fun hn => absurd hn hc5) (fun _ => ?_)
      refine pw_iload_n 2 (px_at td_Or_leastSurge 14 rfl) rfl rfl ?_
      rcases px_ite h with ⟨hc4, h⟩ | ⟨hc4, h⟩
      · refine pw_if_lt 38 (px_at td_Or_leastSurge 15 rfl) (by decide) (fun _ => ?_) (fun hn => absurd hc4 hn)
        refine pw_L [(0, .inr (some (1, p0.toNatClampNeg, 0))), (1, .inl v1), (3, .inl v3)] [0, 1, 3] rfl ?_
        exact Or_leastSurge_n38_l h hC hX0
      · refine pw_if_lt 38 (px_at td_Or_leastSurge 15 rfl) (by decide) (fun hn => absurd hn hc4) (fun _ => ?_)
        refine pw_aload_n 0 (px_at td_Or_leastSurge 16 rfl) rfl rfl ?_
        refine pw_iload_n 3 (px_at td_Or_leastSurge 17 rfl) rfl rfl ?_
        obtain ⟨r1, hk1, h⟩ := px_b1_e h
        refine pw_cV1 (1, p0.toNatClampNeg, 0) [.inl v3] [] (px_at td_Or_leastSurge 18 rfl) lV_Or_31 rfl rfl rfl (Nat.le_of_ble_eq_true rfl) (by decide) (k_Pl_surge hk1) ?_
        refine pw_aload_n 0 (px_at td_Or_leastSurge 19 rfl) rfl rfl ?_
        refine pw_iload_n 2 (px_at td_Or_leastSurge 20 rfl) rfl rfl ?_
        obtain ⟨r2, hk2, h⟩ := px_b1_e h
        refine pw_cV1 (1, p0.toNatClampNeg, 0) [.inl v2] [.inl r1] (px_at td_Or_leastSurge 21 rfl) lV_Or_31 rfl rfl rfl (Nat.le_of_ble_eq_true rfl) (by decide) (k_Pl_surge hk2) ?_
        rcases px_ite h with ⟨hc3, h⟩ | ⟨hc3, h⟩
        · refine pw_icmp_ge 40 (px_at td_Or_leastSurge 22 rfl) (by decide) (fun _ => ?_) (fun hn => absurd hc3 hn)
          exact Or_leastSurge_n40_l h hC hX0
        · refine pw_icmp_ge 40 (px_at td_Or_leastSurge 22 rfl) (by decide) (fun hn => absurd hn hc3) (fun _ => ?_)
          refine pw_L [(0, .inr (some (1, p0.toNatClampNeg, 0))), (1, .inl v1), (3, .inl v3)] [0, 1, 3] rfl ?_
          exact Or_leastSurge_n38_l h hC hX0
def Or_leastSurge_L5 (σ : pxS) (p0 : Int32) (v1 : Int32) : (Int32 × Int32) → Option ((Int32 × Int32) ⊕ (Int32)) := fun s => Or_leastSurge_n5 σ p0 v1 s.1 s.2
set_option maxRecDepth 100000 in
theorem Or_leastSurge_L5_l {l : Launch} {ids : List pxI} {Rt : Option pxV → List pxI → pxG → pxS → Prop} {σ : pxS} {p0 : Int32} {v1 : Int32} {n : Nat} {s : Int32 × Int32} {e : Int32} (h : px_it (Or_leastSurge_L5 σ p0 v1) n s = some e) (hX0 : pw l (px_R 2) y_Or_leastSurge c_Or_leastSurge 4 (some .int) 46 [(2, .inl e)] [] ids cG σ 0 0 Rt) : pw l (px_R 2) y_Or_leastSurge c_Or_leastSurge 4 (some .int) 5 [(0, .inr (some (1, p0.toNatClampNeg, 0))), (1, .inl v1), (2, .inl s.1), (3, .inl s.2)] [] ids cG σ 0 0 Rt := by
  refine px_it_rule (f := Or_leastSurge_L5 σ p0 v1) (C := fun s => pw l (px_R 2) y_Or_leastSurge c_Or_leastSurge 4 (some .int) 5 [(0, .inr (some (1, p0.toNatClampNeg, 0))), (1, .inl v1), (2, .inl s.1), (3, .inl s.2)] [] ids cG σ 0 0 Rt) (X := fun e => (pw l (px_R 2) y_Or_leastSurge c_Or_leastSurge 4 (some .int) 46 [(2, .inl e)] [] ids cG σ 0 0 Rt)) ?_ ?_ n s e h hX0
  · intro s s1 hf hC
    exact Or_leastSurge_n5_l hf (fun s2 hs => by cases hs; exact hC) (fun e he => by cases he)
  · intro s e hf hX
    exact Or_leastSurge_n5_l hf (fun s2 hs => by cases hs) (fun e1 he => by cases he; exact hX)
def F_Or_leastSurge (σ : pxS) (p0 : Int32) (v1 : Int32) : Option (Int32) :=
  px_b1 (px_it (Or_leastSurge_L5 σ p0 v1) px_N ((-2), 0)) fun e7 =>
  some (e7)
set_option maxRecDepth 100000 in
theorem e_Or_leastSurge {l : Launch} {ids : List pxI} {Rt : Option pxV → List pxI → pxG → pxS → Prop} {σ : pxS} {p0 : Int32} {v1 : Int32} {res : Int32} (h : F_Or_leastSurge σ p0 v1 = some res) (hR : Rt (some (.inl res)) ids cG σ) : pw l (px_R 2) y_Or_leastSurge c_Or_leastSurge 4 (some .int) 0 [(0, .inr (some (1, p0.toNatClampNeg, 0))), (1, .inl v1)] [] ids cG σ 0 0 Rt := by
  unfold F_Or_leastSurge at h
  refine pw_bipush (v := (-2)) (px_at td_Or_leastSurge 0 rfl) (by decide) ?_
  refine pw_istore_n (L' := [(2, .inl (-2)), (0, .inr (some (1, p0.toNatClampNeg, 0))), (1, .inl v1)]) (px_at td_Or_leastSurge 1 rfl) rfl (by decide) rfl ?_
  refine pw_iconst (v := 0) (px_at td_Or_leastSurge 2 rfl) (by decide) ?_
  refine pw_istore_n (L' := [(3, .inl 0), (2, .inl (-2)), (0, .inr (some (1, p0.toNatClampNeg, 0))), (1, .inl v1)]) (px_at td_Or_leastSurge 3 rfl) rfl (by decide) rfl ?_
  obtain ⟨e7, he7, h⟩ := px_b1_e h
  refine pw_L [(0, .inr (some (1, p0.toNatClampNeg, 0))), (1, .inl v1), (2, .inl (-2)), (3, .inl 0)] [2, 3, 1, 0] rfl ?_
  refine Or_leastSurge_L5_l he7 ?_
  refine pw_iload_n 0 (px_at td_Or_leastSurge 27 rfl) rfl rfl ?_
  obtain rfl := Option.some.inj h
  exact pw_iret (px_at td_Or_leastSurge 28 rfl) rfl (Nat.le_refl 0) (Nat.le_refl 0) hR
theorem k_Or_leastSurge {l : Launch} {ids : List pxI} {σ : pxS} {p0 : Int32} {v1 : Int32} {res : Int32} (h : F_Or_leastSurge σ p0 v1 = some res) : pm l y_Or_leastSurge c_Or_leastSurge 4 (some .int) (px_R 2) [.inr (some (1, p0.toNatClampNeg, 0)), .inl v1] ids cG σ (px_r (some (.inl res)) ids cG σ) :=
  pm_ofF (by decide +kernel) (Nat.le_of_ble_eq_true rfl) (e_Or_leastSurge h ⟨rfl, rfl, rfl, rfl⟩)
/-! Or_leastHeat -/
def Or_leastHeat_n19 (σ : pxS) (k0 : Nat) (p2 : Int32) (v3 : Int32) (v4 : Int32) (v5 : Int32) (v6 : Int32) : Option ((Int32 × Int32 × Int32 × Int32) ⊕ (Nat × Int32)) :=
  (if 12 ≤ v6 then some (.inr (1, v5)) else (if v3 = 0 then some (.inr (1, v5)) else px_b1 (F_Pl_directOfAll σ p2 v3) fun r2 =>
  px_b1 (F_Or_leastSurge σ p2 (v3 &&& (r2 ^^^ (-1)))) fun r3 =>
  (if 0 ≤ r3 then px_b1 (F_Pl_surge σ p2 r3) fun r4 =>
  px_gd r3 12 (some (.inl ((v3 &&& ((1 <<< (r3 &&& 31)) ^^^ (-1))), (v4 - (σ (3, k0, r3.toNatClampNeg) 0)), (if v5 < (v4 + r4) then (v4 + r4) else v5), (v6 + 1)))) else some (.inr (0, 0)))))
set_option maxRecDepth 100000 in
theorem Or_leastHeat_n19_l {l : Launch} {ids : List pxI} {Rt : Option pxV → List pxI → pxG → pxS → Prop} {σ : pxS} {k0 : Nat} {p2 : Int32} {v3 : Int32} {v4 : Int32} {v5 : Int32} {v6 : Int32} {o : (Int32 × Int32 × Int32 × Int32) ⊕ (Nat × Int32)} (h : Or_leastHeat_n19 σ k0 p2 v3 v4 v5 v6 = some o) (hC : ∀ s, o = .inl s → pw l (px_R 3) y_Or_leastHeat c_Or_leastHeat 8 (some .int) 19 [(0, .inr (some (2, k0, 0))), (2, .inr (some (1, p2.toNatClampNeg, 0))), (3, .inl s.1), (4, .inl s.2.1), (5, .inl s.2.2.1), (6, .inl s.2.2.2)] [] ids cG σ 0 0 Rt) (hX0 : ∀ e, o = .inr e → e.1 = 0 → pw l (px_R 3) y_Or_leastHeat c_Or_leastHeat 8 (some .int) 50 [] [] ids cG σ 0 0 Rt) (hX1 : ∀ e, o = .inr e → e.1 = 1 → pw l (px_R 3) y_Or_leastHeat c_Or_leastHeat 8 (some .int) 99 [(5, .inl e.2)] [] ids cG σ 0 0 Rt) : pw l (px_R 3) y_Or_leastHeat c_Or_leastHeat 8 (some .int) 19 [(0, .inr (some (2, k0, 0))), (2, .inr (some (1, p2.toNatClampNeg, 0))), (3, .inl v3), (4, .inl v4), (5, .inl v5), (6, .inl v6)] [] ids cG σ 0 0 Rt := by
  unfold Or_leastHeat_n19 at h
  refine pw_iload 5 (px_at td_Or_leastHeat 12 rfl) rfl ?_
  refine pw_bipush (v := 12) (px_at td_Or_leastHeat 13 rfl) (by decide) ?_
  rcases px_ite h with ⟨hc8, h⟩ | ⟨hc8, h⟩
  · refine pw_icmp_ge 99 (px_at td_Or_leastHeat 14 rfl) (by decide) (fun _ => ?_) (fun hn => absurd hc8 hn)
    refine pw_L [(5, .inl v5)] [4] rfl ?_
    exact hX1 (1, v5) (Option.some.inj h).symm rfl
  · refine pw_icmp_ge 99 (px_at td_Or_leastHeat 14 rfl) (by decide) (fun hn => absurd hn hc8) (fun _ => ?_)
    refine pw_iload_n 2 (px_at td_Or_leastHeat 15 rfl) rfl rfl ?_
    rcases px_ite h with ⟨hc7, h⟩ | ⟨hc7, h⟩
    · refine pw_if_eq 99 (px_at td_Or_leastHeat 16 rfl) (by decide) (fun _ => ?_) (fun hn => absurd hc7 hn)
      refine pw_L [(5, .inl v5)] [4] rfl ?_
      exact hX1 (1, v5) (Option.some.inj h).symm rfl
    · refine pw_if_eq 99 (px_at td_Or_leastHeat 16 rfl) (by decide) (fun hn => absurd hn hc7) (fun _ => ?_)
      refine pw_aload_n 1 (px_at td_Or_leastHeat 17 rfl) rfl rfl ?_
      refine pw_iload_n 2 (px_at td_Or_leastHeat 18 rfl) rfl rfl ?_
      refine pw_aload_n 1 (px_at td_Or_leastHeat 19 rfl) rfl rfl ?_
      refine pw_iload_n 2 (px_at td_Or_leastHeat 20 rfl) rfl rfl ?_
      obtain ⟨r2, hk2, h⟩ := px_b1_e h
      refine pw_cV1 (1, p2.toNatClampNeg, 0) [.inl v3] [.inl v3, .inr (some (1, p2.toNatClampNeg, 0))] (px_at td_Or_leastHeat 21 rfl) lV_Or_21 rfl rfl rfl (Nat.le_of_ble_eq_true rfl) (by decide) (k_Pl_directOfAll hk2) ?_
      refine pw_iconst (v := (-1)) (px_at td_Or_leastHeat 22 rfl) (by decide) ?_
      refine pw_ixor (px_at td_Or_leastHeat 23 rfl) ?_
      refine pw_iand (px_at td_Or_leastHeat 24 rfl) ?_
      obtain ⟨r3, hk3, h⟩ := px_b1_e h
      refine pw_cS1 [.inr (some (1, p2.toNatClampNeg, 0)), .inl (v3 &&& (r2 ^^^ (-1)))] [] (px_at td_Or_leastHeat 25 rfl) lS_Or_27 rfl rfl (Nat.le_of_ble_eq_true rfl) (by decide) (k_Or_leastSurge hk3) ?_
      refine pw_istore (L' := [(7, .inl r3), (0, .inr (some (2, k0, 0))), (2, .inr (some (1, p2.toNatClampNeg, 0))), (3, .inl v3), (4, .inl v4), (5, .inl v5), (6, .inl v6)]) (px_at td_Or_leastHeat 26 rfl) (by decide) rfl ?_
      refine pw_iload 0 (px_at td_Or_leastHeat 27 rfl) rfl ?_
      rcases px_ite h with ⟨hc6, h⟩ | ⟨hc6, h⟩
      · refine pw_if_ge 53 (px_at td_Or_leastHeat 28 rfl) (by decide) (fun _ => ?_) (fun hn => absurd hc6 hn)
        refine pw_iload 5 (px_at td_Or_leastHeat 31 rfl) rfl ?_
        refine pw_iload 4 (px_at td_Or_leastHeat 32 rfl) rfl ?_
        refine pw_aload_n 2 (px_at td_Or_leastHeat 33 rfl) rfl rfl ?_
        refine pw_iload 0 (px_at td_Or_leastHeat 34 rfl) rfl ?_
        obtain ⟨r4, hk4, h⟩ := px_b1_e h
        refine pw_cV1 (1, p2.toNatClampNeg, 0) [.inl r3] [.inl v4, .inl v5] (px_at td_Or_leastHeat 35 rfl) lV_Or_31 rfl rfl rfl (Nat.le_of_ble_eq_true rfl) (by decide) (k_Pl_surge hk4) ?_
        refine pw_iadd (px_at td_Or_leastHeat 36 rfl) ?_
        refine pw_mmax (px_at td_Or_leastHeat 37 rfl) lm_Or_34 ws_Math_max wi_java_lang_Math wc_Math_max (by decide) (Nat.le_of_ble_eq_true rfl) (Nat.le_refl 0) (Nat.le_refl 0) ?_
        refine pw_istore (L' := [(5, .inl (if v5 < (v4 + r4) then (v4 + r4) else v5)), (7, .inl r3), (0, .inr (some (2, k0, 0))), (2, .inr (some (1, p2.toNatClampNeg, 0))), (3, .inl v3), (4, .inl v4), (6, .inl v6)]) (px_at td_Or_leastHeat 38 rfl) (by decide) rfl ?_
        refine pw_iload 5 (px_at td_Or_leastHeat 39 rfl) rfl ?_
        refine pw_aload_n 2 (px_at td_Or_leastHeat 40 rfl) rfl rfl ?_
        refine pw_getf (v := .inr (some (9, k0, 0))) (px_at td_Or_leastHeat 41 rfl) lf_Or_40 rfl rfl rfl ?_
        refine pw_iload 1 (px_at td_Or_leastHeat 42 rfl) rfl ?_
        obtain ⟨hi5, h⟩ := px_gd_e h
        refine pw_aald (r := (3, k0, r3.toNatClampNeg)) (px_at td_Or_leastHeat 43 rfl) rfl (fun _ => rfl) hi5 rfl ?_
        refine pw_getf (v := .inl (σ (3, k0, r3.toNatClampNeg) 0)) (px_at td_Or_leastHeat 44 rfl) lf_Or_44 rfl rfl rfl ?_
        refine pw_isub (px_at td_Or_leastHeat 45 rfl) ?_
        refine pw_istore (L' := [(4, .inl (v4 - (σ (3, k0, r3.toNatClampNeg) 0))), (5, .inl (if v5 < (v4 + r4) then (v4 + r4) else v5)), (7, .inl r3), (0, .inr (some (2, k0, 0))), (2, .inr (some (1, p2.toNatClampNeg, 0))), (3, .inl v3), (6, .inl v6)]) (px_at td_Or_leastHeat 46 rfl) (by decide) rfl ?_
        refine pw_iload_n 5 (px_at td_Or_leastHeat 47 rfl) rfl rfl ?_
        refine pw_iconst (v := 1) (px_at td_Or_leastHeat 48 rfl) (by decide) ?_
        refine pw_iload 2 (px_at td_Or_leastHeat 49 rfl) rfl ?_
        refine pw_ishl (px_at td_Or_leastHeat 50 rfl) ?_
        refine pw_iconst (v := (-1)) (px_at td_Or_leastHeat 51 rfl) (by decide) ?_
        refine pw_ixor (px_at td_Or_leastHeat 52 rfl) ?_
        refine pw_iand (px_at td_Or_leastHeat 53 rfl) ?_
        refine pw_istore_n (L' := [(3, .inl (v3 &&& ((1 <<< (r3 &&& 31)) ^^^ (-1)))), (4, .inl (v4 - (σ (3, k0, r3.toNatClampNeg) 0))), (5, .inl (if v5 < (v4 + r4) then (v4 + r4) else v5)), (7, .inl r3), (0, .inr (some (2, k0, 0))), (2, .inr (some (1, p2.toNatClampNeg, 0))), (6, .inl v6)]) (px_at td_Or_leastHeat 54 rfl) rfl (by decide) rfl ?_
        refine pw_iinc (q := 6) (v := (v6 + 1)) (L' := [(6, .inl (v6 + 1)), (3, .inl (v3 &&& ((1 <<< (r3 &&& 31)) ^^^ (-1)))), (4, .inl (v4 - (σ (3, k0, r3.toNatClampNeg) 0))), (5, .inl (if v5 < (v4 + r4) then (v4 + r4) else v5)), (7, .inl r3), (0, .inr (some (2, k0, 0))), (2, .inr (some (1, p2.toNatClampNeg, 0)))]) (px_at td_Or_leastHeat 55 rfl) rfl rfl (by decide) rfl ?_
        refine pw_goto 19 (px_at td_Or_leastHeat 56 rfl) (by decide) ?_
        refine pw_L [(0, .inr (some (2, k0, 0))), (2, .inr (some (1, p2.toNatClampNeg, 0))), (3, .inl (v3 &&& ((1 <<< (r3 &&& 31)) ^^^ (-1)))), (4, .inl (v4 - (σ (3, k0, r3.toNatClampNeg) 0))), (5, .inl (if v5 < (v4 + r4) then (v4 + r4) else v5)), (6, .inl (v6 + 1))] [5, 6, 1, 2, 3, 0] rfl ?_
        exact hC ((v3 &&& ((1 <<< (r3 &&& 31)) ^^^ (-1))), (v4 - (σ (3, k0, r3.toNatClampNeg) 0)), (if v5 < (v4 + r4) then (v4 + r4) else v5), (v6 + 1)) (Option.some.inj h).symm
      · refine pw_if_ge 53 (px_at td_Or_leastHeat 28 rfl) (by decide) (fun hn => absurd hn hc6) (fun _ => ?_)
        refine pw_L [] [] rfl ?_
        exact hX0 (0, 0) (Option.some.inj h).symm rfl
def Or_leastHeat_L19 (σ : pxS) (k0 : Nat) (p2 : Int32) : (Int32 × Int32 × Int32 × Int32) → Option ((Int32 × Int32 × Int32 × Int32) ⊕ (Nat × Int32)) := fun s => Or_leastHeat_n19 σ k0 p2 s.1 s.2.1 s.2.2.1 s.2.2.2
set_option maxRecDepth 100000 in
theorem Or_leastHeat_L19_l {l : Launch} {ids : List pxI} {Rt : Option pxV → List pxI → pxG → pxS → Prop} {σ : pxS} {k0 : Nat} {p2 : Int32} {n : Nat} {s : Int32 × Int32 × Int32 × Int32} {e : Nat × Int32} (h : px_it (Or_leastHeat_L19 σ k0 p2) n s = some e) (hX0 : e.1 = 0 → pw l (px_R 3) y_Or_leastHeat c_Or_leastHeat 8 (some .int) 50 [] [] ids cG σ 0 0 Rt) (hX1 : e.1 = 1 → pw l (px_R 3) y_Or_leastHeat c_Or_leastHeat 8 (some .int) 99 [(5, .inl e.2)] [] ids cG σ 0 0 Rt) : pw l (px_R 3) y_Or_leastHeat c_Or_leastHeat 8 (some .int) 19 [(0, .inr (some (2, k0, 0))), (2, .inr (some (1, p2.toNatClampNeg, 0))), (3, .inl s.1), (4, .inl s.2.1), (5, .inl s.2.2.1), (6, .inl s.2.2.2)] [] ids cG σ 0 0 Rt := by
  refine px_it_rule (f := Or_leastHeat_L19 σ k0 p2) (C := fun s => pw l (px_R 3) y_Or_leastHeat c_Or_leastHeat 8 (some .int) 19 [(0, .inr (some (2, k0, 0))), (2, .inr (some (1, p2.toNatClampNeg, 0))), (3, .inl s.1), (4, .inl s.2.1), (5, .inl s.2.2.1), (6, .inl s.2.2.2)] [] ids cG σ 0 0 Rt) (X := fun e => (e.1 = 0 → pw l (px_R 3) y_Or_leastHeat c_Or_leastHeat 8 (some .int) 50 [] [] ids cG σ 0 0 Rt) ∧ (e.1 = 1 → pw l (px_R 3) y_Or_leastHeat c_Or_leastHeat 8 (some .int) 99 [(5, .inl e.2)] [] ids cG σ 0 0 Rt)) ?_ ?_ n s e h ⟨hX0, hX1⟩
  · intro s s1 hf hC
    exact Or_leastHeat_n19_l hf (fun s2 hs => by cases hs; exact hC) (fun e he ht => by cases he) (fun e he ht => by cases he)
  · intro s e hf hX
    exact Or_leastHeat_n19_l hf (fun s2 hs => by cases hs) (fun e1 he ht => by cases he; exact hX.1 ht) (fun e1 he ht => by cases he; exact hX.2 ht)
def F_Or_leastHeat (σ : pxS) (k0 : Nat) (v1 : Int32) : Option (Int32) :=
  px_b1 (F_Or_allLoads σ k0) fun r1 =>
  px_b1 (px_it (Or_leastHeat_L19 σ k0 (σ (2, k0, 0) 4)) px_N (v1, r1, 0, 0)) fun e9 =>
  (if e9.1 = 0 then some ((-2)) else some (e9.2))
set_option maxRecDepth 100000 in
theorem e_Or_leastHeat {l : Launch} {ids : List pxI} {Rt : Option pxV → List pxI → pxG → pxS → Prop} {σ : pxS} {k0 : Nat} {v1 : Int32} {res : Int32} (h : F_Or_leastHeat σ k0 v1 = some res) (hR : Rt (some (.inl res)) ids cG σ) : pw l (px_R 3) y_Or_leastHeat c_Or_leastHeat 8 (some .int) 0 [(0, .inr (some (2, k0, 0))), (1, .inl v1)] [] ids cG σ 0 0 Rt := by
  unfold F_Or_leastHeat at h
  refine pw_aload_n 0 (px_at td_Or_leastHeat 0 rfl) rfl rfl ?_
  refine pw_getf (v := .inr (some (1, (σ (2, k0, 0) 4).toNatClampNeg, 0))) (px_at td_Or_leastHeat 1 rfl) lf_Or_9 rfl rfl rfl ?_
  refine pw_astore_n (L' := [(2, .inr (some (1, (σ (2, k0, 0) 4).toNatClampNeg, 0))), (0, .inr (some (2, k0, 0))), (1, .inl v1)]) (px_at td_Or_leastHeat 2 rfl) rfl (by decide) rfl ?_
  refine pw_iload_n 2 (px_at td_Or_leastHeat 3 rfl) rfl rfl ?_
  refine pw_istore_n (L' := [(3, .inl v1), (2, .inr (some (1, (σ (2, k0, 0) 4).toNatClampNeg, 0))), (0, .inr (some (2, k0, 0))), (1, .inl v1)]) (px_at td_Or_leastHeat 4 rfl) rfl (by decide) rfl ?_
  refine pw_aload_n 2 (px_at td_Or_leastHeat 5 rfl) rfl rfl ?_
  obtain ⟨r1, hk1, h⟩ := px_b1_e h
  refine pw_cS1 [.inr (some (2, k0, 0))] [] (px_at td_Or_leastHeat 6 rfl) lS_Or_15 rfl rfl (Nat.le_of_ble_eq_true rfl) (by decide) (k_Or_allLoads hk1) ?_
  refine pw_istore (L' := [(4, .inl r1), (3, .inl v1), (2, .inr (some (1, (σ (2, k0, 0) 4).toNatClampNeg, 0))), (0, .inr (some (2, k0, 0))), (1, .inl v1)]) (px_at td_Or_leastHeat 7 rfl) (by decide) rfl ?_
  refine pw_iconst (v := 0) (px_at td_Or_leastHeat 8 rfl) (by decide) ?_
  refine pw_istore (L' := [(5, .inl 0), (4, .inl r1), (3, .inl v1), (2, .inr (some (1, (σ (2, k0, 0) 4).toNatClampNeg, 0))), (0, .inr (some (2, k0, 0))), (1, .inl v1)]) (px_at td_Or_leastHeat 9 rfl) (by decide) rfl ?_
  refine pw_iconst (v := 0) (px_at td_Or_leastHeat 10 rfl) (by decide) ?_
  refine pw_istore (L' := [(6, .inl 0), (5, .inl 0), (4, .inl r1), (3, .inl v1), (2, .inr (some (1, (σ (2, k0, 0) 4).toNatClampNeg, 0))), (0, .inr (some (2, k0, 0))), (1, .inl v1)]) (px_at td_Or_leastHeat 11 rfl) (by decide) rfl ?_
  obtain ⟨e9, he9, h⟩ := px_b1_e h
  refine pw_L [(0, .inr (some (2, k0, 0))), (2, .inr (some (1, (σ (2, k0, 0) 4).toNatClampNeg, 0))), (3, .inl v1), (4, .inl r1), (5, .inl 0), (6, .inl 0)] [5, 4, 3, 2, 1, 0] rfl ?_
  refine Or_leastHeat_L19_l he9 (fun ht0 => ?_) (fun ht1 => ?_)
  · rw [if_pos ht0] at h
    refine pw_bipush (v := (-2)) (px_at td_Or_leastHeat 29 rfl) (by decide) ?_
    obtain rfl := Option.some.inj h
    exact pw_iret (px_at td_Or_leastHeat 30 rfl) rfl (Nat.le_refl 0) (Nat.le_refl 0) hR
  · rw [if_neg (by rw [ht1]; decide)] at h
    refine pw_iload 0 (px_at td_Or_leastHeat 57 rfl) rfl ?_
    obtain rfl := Option.some.inj h
    exact pw_iret (px_at td_Or_leastHeat 58 rfl) rfl (Nat.le_refl 0) (Nat.le_refl 0) hR
theorem k_Or_leastHeat {l : Launch} {ids : List pxI} {σ : pxS} {k0 : Nat} {v1 : Int32} {res : Int32} (h : F_Or_leastHeat σ k0 v1 = some res) : pm l y_Or_leastHeat c_Or_leastHeat 8 (some .int) (px_R 3) [.inr (some (2, k0, 0)), .inl v1] ids cG σ (px_r (some (.inl res)) ids cG σ) :=
  pm_ofF (by decide +kernel) (Nat.le_of_ble_eq_true rfl) (e_Or_leastHeat h ⟨rfl, rfl, rfl, rfl⟩)
/-! Or_firstThatFits -/
def Or_firstThatFits_n69 (σ : pxS) (k0 : Nat) (v1 : Int32) (v2 : Int32) (p3 : Int32) (v4 : Int32) : Option ((Int32) ⊕ (Nat × Int32)) :=
  some (.inl (v4 + 1))
set_option maxRecDepth 100000 in
theorem Or_firstThatFits_n69_l {l : Launch} {ids : List pxI} {Rt : Option pxV → List pxI → pxG → pxS → Prop} {σ : pxS} {k0 : Nat} {v1 : Int32} {v2 : Int32} {p3 : Int32} {v4 : Int32} {o : (Int32) ⊕ (Nat × Int32)} (h : Or_firstThatFits_n69 σ k0 v1 v2 p3 v4 = some o) (hC : ∀ s, o = .inl s → pw l (px_R 4) y_Or_firstThatFits c_Or_firstThatFits 6 (some .int) 8 [(0, .inr (some (2, k0, 0))), (1, .inl v1), (2, .inl v2), (3, .inr (some (1, p3.toNatClampNeg, 0))), (4, .inl s)] [] ids cG σ 0 0 Rt) (hX0 : ∀ e, o = .inr e → e.1 = 0 → pw l (px_R 4) y_Or_firstThatFits c_Or_firstThatFits 6 (some .int) 66 [(4, .inl e.2)] [] ids cG σ 0 0 Rt) (hX1 : ∀ e, o = .inr e → e.1 = 1 → pw l (px_R 4) y_Or_firstThatFits c_Or_firstThatFits 6 (some .int) 75 [] [] ids cG σ 0 0 Rt) : pw l (px_R 4) y_Or_firstThatFits c_Or_firstThatFits 6 (some .int) 69 [(0, .inr (some (2, k0, 0))), (1, .inl v1), (2, .inl v2), (3, .inr (some (1, p3.toNatClampNeg, 0))), (4, .inl v4)] [] ids cG σ 0 0 Rt := by
  unfold Or_firstThatFits_n69 at h
  refine pw_iinc (q := 4) (v := (v4 + 1)) (L' := [(4, .inl (v4 + 1)), (0, .inr (some (2, k0, 0))), (1, .inl v1), (2, .inl v2), (3, .inr (some (1, p3.toNatClampNeg, 0)))]) (px_at td_Or_firstThatFits 41 rfl) rfl rfl (by decide) rfl ?_
  refine pw_goto 8 (px_at td_Or_firstThatFits 42 rfl) (by decide) ?_
  refine pw_L [(0, .inr (some (2, k0, 0))), (1, .inl v1), (2, .inl v2), (3, .inr (some (1, p3.toNatClampNeg, 0))), (4, .inl (v4 + 1))] [1, 2, 3, 4, 0] rfl ?_
  exact hC (v4 + 1) (Option.some.inj h).symm
def Or_firstThatFits_n42 (σ : pxS) (k0 : Nat) (v1 : Int32) (v2 : Int32) (p3 : Int32) (v4 : Int32) : Option ((Int32) ⊕ (Nat × Int32)) :=
  Or_firstThatFits_n69 σ k0 v1 v2 p3 v4
set_option maxRecDepth 100000 in
theorem Or_firstThatFits_n42_l {l : Launch} {ids : List pxI} {Rt : Option pxV → List pxI → pxG → pxS → Prop} {σ : pxS} {k0 : Nat} {v1 : Int32} {v2 : Int32} {p3 : Int32} {v4 : Int32} {o : (Int32) ⊕ (Nat × Int32)} (h : Or_firstThatFits_n42 σ k0 v1 v2 p3 v4 = some o) (hC : ∀ s, o = .inl s → pw l (px_R 4) y_Or_firstThatFits c_Or_firstThatFits 6 (some .int) 8 [(0, .inr (some (2, k0, 0))), (1, .inl v1), (2, .inl v2), (3, .inr (some (1, p3.toNatClampNeg, 0))), (4, .inl s)] [] ids cG σ 0 0 Rt) (hX0 : ∀ e, o = .inr e → e.1 = 0 → pw l (px_R 4) y_Or_firstThatFits c_Or_firstThatFits 6 (some .int) 66 [(4, .inl e.2)] [] ids cG σ 0 0 Rt) (hX1 : ∀ e, o = .inr e → e.1 = 1 → pw l (px_R 4) y_Or_firstThatFits c_Or_firstThatFits 6 (some .int) 75 [] [] ids cG σ 0 0 Rt) : pw l (px_R 4) y_Or_firstThatFits c_Or_firstThatFits 6 (some .int) 42 [(0, .inr (some (2, k0, 0))), (1, .inl v1), (2, .inl v2), (3, .inr (some (1, p3.toNatClampNeg, 0))), (4, .inl v4)] [] ids cG σ 0 0 Rt := by
  unfold Or_firstThatFits_n42 at h
  refine pw_iconst (v := 0) (px_at td_Or_firstThatFits 24 rfl) (by decide) ?_
  refine pw_istore (L' := [(5, .inl 0), (0, .inr (some (2, k0, 0))), (1, .inl v1), (2, .inl v2), (3, .inr (some (1, p3.toNatClampNeg, 0))), (4, .inl v4)]) (px_at td_Or_firstThatFits 25 rfl) (by decide) rfl ?_
  refine pw_iload 0 (px_at td_Or_firstThatFits 26 rfl) rfl ?_
  refine pw_if_eq 69 (px_at td_Or_firstThatFits 27 rfl) (by decide) (fun hn => ?_) (fun hn => absurd hn (by decide))
  refine pw_L [(0, .inr (some (2, k0, 0))), (1, .inl v1), (2, .inl v2), (3, .inr (some (1, p3.toNatClampNeg, 0))), (4, .inl v4)] [1, 2, 3, 4, 5] rfl ?_
  exact Or_firstThatFits_n69_l h hC hX0 hX1
def Or_firstThatFits_n8 (σ : pxS) (k0 : Nat) (v1 : Int32) (v2 : Int32) (p3 : Int32) (v4 : Int32) : Option ((Int32) ⊕ (Nat × Int32)) :=
  (if (σ (1, p3.toNatClampNeg, 0) 0) ≤ v4 then some (.inr (1, 0)) else (if ((v1 >>> (v4 &&& 31)) &&& 1) = 0 then Or_firstThatFits_n42 σ k0 v1 v2 p3 v4 else px_gd v4 12 ((if ((σ (8, p3.toNatClampNeg, 8) v4.toNatClampNeg) &&& v1) = 0 then px_b1 (F_Or_leastHeat σ k0 (v1 &&& ((1 <<< (v4 &&& 31)) ^^^ (-1)))) fun r2 =>
  (if v2 < r2 then Or_firstThatFits_n69 σ k0 v1 v2 p3 v4 else some (.inr (0, v4))) else Or_firstThatFits_n42 σ k0 v1 v2 p3 v4))))
set_option maxRecDepth 100000 in
theorem Or_firstThatFits_n8_l {l : Launch} {ids : List pxI} {Rt : Option pxV → List pxI → pxG → pxS → Prop} {σ : pxS} {k0 : Nat} {v1 : Int32} {v2 : Int32} {p3 : Int32} {v4 : Int32} {o : (Int32) ⊕ (Nat × Int32)} (h : Or_firstThatFits_n8 σ k0 v1 v2 p3 v4 = some o) (hC : ∀ s, o = .inl s → pw l (px_R 4) y_Or_firstThatFits c_Or_firstThatFits 6 (some .int) 8 [(0, .inr (some (2, k0, 0))), (1, .inl v1), (2, .inl v2), (3, .inr (some (1, p3.toNatClampNeg, 0))), (4, .inl s)] [] ids cG σ 0 0 Rt) (hX0 : ∀ e, o = .inr e → e.1 = 0 → pw l (px_R 4) y_Or_firstThatFits c_Or_firstThatFits 6 (some .int) 66 [(4, .inl e.2)] [] ids cG σ 0 0 Rt) (hX1 : ∀ e, o = .inr e → e.1 = 1 → pw l (px_R 4) y_Or_firstThatFits c_Or_firstThatFits 6 (some .int) 75 [] [] ids cG σ 0 0 Rt) : pw l (px_R 4) y_Or_firstThatFits c_Or_firstThatFits 6 (some .int) 8 [(0, .inr (some (2, k0, 0))), (1, .inl v1), (2, .inl v2), (3, .inr (some (1, p3.toNatClampNeg, 0))), (4, .inl v4)] [] ids cG σ 0 0 Rt := by
  unfold Or_firstThatFits_n8 at h
  refine pw_iload 4 (px_at td_Or_firstThatFits 5 rfl) rfl ?_
  refine pw_aload_n 3 (px_at td_Or_firstThatFits 6 rfl) rfl rfl ?_
  refine pw_getf (v := .inl (σ (1, p3.toNatClampNeg, 0) 0)) (px_at td_Or_firstThatFits 7 rfl) lf_Or_62 rfl rfl rfl ?_
  rcases px_ite h with ⟨hc6, h⟩ | ⟨hc6, h⟩
  · refine pw_icmp_ge 75 (px_at td_Or_firstThatFits 8 rfl) (by decide) (fun _ => ?_) (fun hn => absurd hc6 hn)
    refine pw_L [] [] rfl ?_
    exact hX1 (1, 0) (Option.some.inj h).symm rfl
  · refine pw_icmp_ge 75 (px_at td_Or_firstThatFits 8 rfl) (by decide) (fun hn => absurd hn hc6) (fun _ => ?_)
    refine pw_iload_n 1 (px_at td_Or_firstThatFits 9 rfl) rfl rfl ?_
    refine pw_iload 4 (px_at td_Or_firstThatFits 10 rfl) rfl ?_
    refine pw_ishr (px_at td_Or_firstThatFits 11 rfl) ?_
    refine pw_iconst (v := 1) (px_at td_Or_firstThatFits 12 rfl) (by decide) ?_
    refine pw_iand (px_at td_Or_firstThatFits 13 rfl) ?_
    rcases px_ite h with ⟨hc5, h⟩ | ⟨hc5, h⟩
    · refine pw_if_eq 42 (px_at td_Or_firstThatFits 14 rfl) (by decide) (fun _ => ?_) (fun hn => absurd hc5 hn)
      exact Or_firstThatFits_n42_l h hC hX0 hX1
    · refine pw_if_eq 42 (px_at td_Or_firstThatFits 14 rfl) (by decide) (fun hn => absurd hn hc5) (fun _ => ?_)
      refine pw_aload_n 3 (px_at td_Or_firstThatFits 15 rfl) rfl rfl ?_
      refine pw_getf (v := .inr (some (8, p3.toNatClampNeg, 8))) (px_at td_Or_firstThatFits 16 rfl) lf_Or_64 rfl rfl rfl ?_
      refine pw_iload 4 (px_at td_Or_firstThatFits 17 rfl) rfl ?_
      obtain ⟨hi1, h⟩ := px_gd_e h
      refine pw_ial (px_at td_Or_firstThatFits 18 rfl) rfl hi1 rfl ?_
      refine pw_iload_n 1 (px_at td_Or_firstThatFits 19 rfl) rfl rfl ?_
      refine pw_iand (px_at td_Or_firstThatFits 20 rfl) ?_
      rcases px_ite h with ⟨hc4, h⟩ | ⟨hc4, h⟩
      · refine pw_if_ne 42 (px_at td_Or_firstThatFits 21 rfl) (by decide) (fun hn => absurd hc4 hn) (fun _ => ?_)
        refine pw_iconst (v := 1) (px_at td_Or_firstThatFits 22 rfl) (by decide) ?_
        refine pw_goto 43 (px_at td_Or_firstThatFits 23 rfl) (by decide) ?_
        refine pw_istore (L' := [(5, .inl 1), (0, .inr (some (2, k0, 0))), (1, .inl v1), (2, .inl v2), (3, .inr (some (1, p3.toNatClampNeg, 0))), (4, .inl v4)]) (px_at td_Or_firstThatFits 25 rfl) (by decide) rfl ?_
        refine pw_iload 0 (px_at td_Or_firstThatFits 26 rfl) rfl ?_
        refine pw_if_eq 69 (px_at td_Or_firstThatFits 27 rfl) (by decide) (fun hn => absurd hn (by decide)) (fun hn => ?_)
        refine pw_aload_n 1 (px_at td_Or_firstThatFits 28 rfl) rfl rfl ?_
        refine pw_iload_n 2 (px_at td_Or_firstThatFits 29 rfl) rfl rfl ?_
        refine pw_iconst (v := 1) (px_at td_Or_firstThatFits 30 rfl) (by decide) ?_
        refine pw_iload 5 (px_at td_Or_firstThatFits 31 rfl) rfl ?_
        refine pw_ishl (px_at td_Or_firstThatFits 32 rfl) ?_
        refine pw_iconst (v := (-1)) (px_at td_Or_firstThatFits 33 rfl) (by decide) ?_
        refine pw_ixor (px_at td_Or_firstThatFits 34 rfl) ?_
        refine pw_iand (px_at td_Or_firstThatFits 35 rfl) ?_
        obtain ⟨r2, hk2, h⟩ := px_b1_e h
        refine pw_cS1 [.inr (some (2, k0, 0)), .inl (v1 &&& ((1 <<< (v4 &&& 31)) ^^^ (-1)))] [] (px_at td_Or_firstThatFits 36 rfl) lS_Or_54 rfl rfl (Nat.le_of_ble_eq_true rfl) (by decide) (k_Or_leastHeat hk2) ?_
        refine pw_iload_n 3 (px_at td_Or_firstThatFits 37 rfl) rfl rfl ?_
        rcases px_ite h with ⟨hc3, h⟩ | ⟨hc3, h⟩
        · refine pw_icmp_gt 69 (px_at td_Or_firstThatFits 38 rfl) (by decide) (fun _ => ?_) (fun hn => absurd hc3 hn)
          refine pw_L [(0, .inr (some (2, k0, 0))), (1, .inl v1), (2, .inl v2), (3, .inr (some (1, p3.toNatClampNeg, 0))), (4, .inl v4)] [1, 2, 3, 4, 5] rfl ?_
          exact Or_firstThatFits_n69_l h hC hX0 hX1
        · refine pw_icmp_gt 69 (px_at td_Or_firstThatFits 38 rfl) (by decide) (fun hn => absurd hn hc3) (fun _ => ?_)
          refine pw_L [(4, .inl v4)] [5] rfl ?_
          exact hX0 (0, v4) (Option.some.inj h).symm rfl
      · refine pw_if_ne 42 (px_at td_Or_firstThatFits 21 rfl) (by decide) (fun _ => ?_) (fun hn => absurd hn hc4)
        exact Or_firstThatFits_n42_l h hC hX0 hX1
def Or_firstThatFits_L8 (σ : pxS) (k0 : Nat) (v1 : Int32) (v2 : Int32) (p3 : Int32) : (Int32) → Option ((Int32) ⊕ (Nat × Int32)) := fun s => Or_firstThatFits_n8 σ k0 v1 v2 p3 s
set_option maxRecDepth 100000 in
theorem Or_firstThatFits_L8_l {l : Launch} {ids : List pxI} {Rt : Option pxV → List pxI → pxG → pxS → Prop} {σ : pxS} {k0 : Nat} {v1 : Int32} {v2 : Int32} {p3 : Int32} {n : Nat} {s : Int32} {e : Nat × Int32} (h : px_it (Or_firstThatFits_L8 σ k0 v1 v2 p3) n s = some e) (hX0 : e.1 = 0 → pw l (px_R 4) y_Or_firstThatFits c_Or_firstThatFits 6 (some .int) 66 [(4, .inl e.2)] [] ids cG σ 0 0 Rt) (hX1 : e.1 = 1 → pw l (px_R 4) y_Or_firstThatFits c_Or_firstThatFits 6 (some .int) 75 [] [] ids cG σ 0 0 Rt) : pw l (px_R 4) y_Or_firstThatFits c_Or_firstThatFits 6 (some .int) 8 [(0, .inr (some (2, k0, 0))), (1, .inl v1), (2, .inl v2), (3, .inr (some (1, p3.toNatClampNeg, 0))), (4, .inl s)] [] ids cG σ 0 0 Rt := by
  refine px_it_rule (f := Or_firstThatFits_L8 σ k0 v1 v2 p3) (C := fun s => pw l (px_R 4) y_Or_firstThatFits c_Or_firstThatFits 6 (some .int) 8 [(0, .inr (some (2, k0, 0))), (1, .inl v1), (2, .inl v2), (3, .inr (some (1, p3.toNatClampNeg, 0))), (4, .inl s)] [] ids cG σ 0 0 Rt) (X := fun e => (e.1 = 0 → pw l (px_R 4) y_Or_firstThatFits c_Or_firstThatFits 6 (some .int) 66 [(4, .inl e.2)] [] ids cG σ 0 0 Rt) ∧ (e.1 = 1 → pw l (px_R 4) y_Or_firstThatFits c_Or_firstThatFits 6 (some .int) 75 [] [] ids cG σ 0 0 Rt)) ?_ ?_ n s e h ⟨hX0, hX1⟩
  · intro s s1 hf hC
    exact Or_firstThatFits_n8_l hf (fun s2 hs => by cases hs; exact hC) (fun e he ht => by cases he) (fun e he ht => by cases he)
  · intro s e hf hX
    exact Or_firstThatFits_n8_l hf (fun s2 hs => by cases hs) (fun e1 he ht => by cases he; exact hX.1 ht) (fun e1 he ht => by cases he; exact hX.2 ht)
def F_Or_firstThatFits (σ : pxS) (k0 : Nat) (v1 : Int32) (v2 : Int32) : Option (Int32) :=
  px_b1 (px_it (Or_firstThatFits_L8 σ k0 v1 v2 (σ (2, k0, 0) 4)) px_N 0) fun e7 =>
  (if e7.1 = 0 then some (e7.2) else some ((-2)))
set_option maxRecDepth 100000 in
theorem e_Or_firstThatFits {l : Launch} {ids : List pxI} {Rt : Option pxV → List pxI → pxG → pxS → Prop} {σ : pxS} {k0 : Nat} {v1 : Int32} {v2 : Int32} {res : Int32} (h : F_Or_firstThatFits σ k0 v1 v2 = some res) (hR : Rt (some (.inl res)) ids cG σ) : pw l (px_R 4) y_Or_firstThatFits c_Or_firstThatFits 6 (some .int) 0 [(0, .inr (some (2, k0, 0))), (1, .inl v1), (2, .inl v2)] [] ids cG σ 0 0 Rt := by
  unfold F_Or_firstThatFits at h
  refine pw_aload_n 0 (px_at td_Or_firstThatFits 0 rfl) rfl rfl ?_
  refine pw_getf (v := .inr (some (1, (σ (2, k0, 0) 4).toNatClampNeg, 0))) (px_at td_Or_firstThatFits 1 rfl) lf_Or_9 rfl rfl rfl ?_
  refine pw_astore_n (L' := [(3, .inr (some (1, (σ (2, k0, 0) 4).toNatClampNeg, 0))), (0, .inr (some (2, k0, 0))), (1, .inl v1), (2, .inl v2)]) (px_at td_Or_firstThatFits 2 rfl) rfl (by decide) rfl ?_
  refine pw_iconst (v := 0) (px_at td_Or_firstThatFits 3 rfl) (by decide) ?_
  refine pw_istore (L' := [(4, .inl 0), (3, .inr (some (1, (σ (2, k0, 0) 4).toNatClampNeg, 0))), (0, .inr (some (2, k0, 0))), (1, .inl v1), (2, .inl v2)]) (px_at td_Or_firstThatFits 4 rfl) (by decide) rfl ?_
  obtain ⟨e7, he7, h⟩ := px_b1_e h
  refine pw_L [(0, .inr (some (2, k0, 0))), (1, .inl v1), (2, .inl v2), (3, .inr (some (1, (σ (2, k0, 0) 4).toNatClampNeg, 0))), (4, .inl 0)] [2, 3, 4, 1, 0] rfl ?_
  refine Or_firstThatFits_L8_l he7 (fun ht0 => ?_) (fun ht1 => ?_)
  · rw [if_pos ht0] at h
    refine pw_iload 0 (px_at td_Or_firstThatFits 39 rfl) rfl ?_
    obtain rfl := Option.some.inj h
    exact pw_iret (px_at td_Or_firstThatFits 40 rfl) rfl (Nat.le_refl 0) (Nat.le_refl 0) hR
  · rw [if_neg (by rw [ht1]; decide)] at h
    refine pw_bipush (v := (-2)) (px_at td_Or_firstThatFits 43 rfl) (by decide) ?_
    obtain rfl := Option.some.inj h
    exact pw_iret (px_at td_Or_firstThatFits 44 rfl) rfl (Nat.le_refl 0) (Nat.le_refl 0) hR
theorem k_Or_firstThatFits {l : Launch} {ids : List pxI} {σ : pxS} {k0 : Nat} {v1 : Int32} {v2 : Int32} {res : Int32} (h : F_Or_firstThatFits σ k0 v1 v2 = some res) : pm l y_Or_firstThatFits c_Or_firstThatFits 6 (some .int) (px_R 4) [.inr (some (2, k0, 0)), .inl v1, .inl v2] ids cG σ (px_r (some (.inl res)) ids cG σ) :=
  pm_ofF (by decide +kernel) (Nat.le_of_ble_eq_true rfl) (e_Or_firstThatFits h ⟨rfl, rfl, rfl, rfl⟩)
/-! Or_railAt -/
def Or_railAt_n21 (σ : pxS) (k0 : Nat) (v1 : Int32) (v2 : Int32) (v3 : Int32) (v4 : Int32) (v5 : Int32) : Option ((Int32 × Int32 × Int32) ⊕ (Nat × Int32)) :=
  (if v1 < v5 then some (.inr (1, v4)) else (if 12 ≤ v5 then some (.inr (1, v4)) else (if v3 < 0 then some (.inr (1, v4)) else px_b1 (F_Or_firstThatFits σ k0 v2 v3) fun r3 =>
  (if 0 ≤ r3 then some (.inl ((v2 &&& ((1 <<< (r3 &&& 31)) ^^^ (-1))), r3, (v5 + 1))) else some (.inr (0, 0))))))
set_option maxRecDepth 100000 in
theorem Or_railAt_n21_l {l : Launch} {ids : List pxI} {Rt : Option pxV → List pxI → pxG → pxS → Prop} {σ : pxS} {k0 : Nat} {v1 : Int32} {v2 : Int32} {v3 : Int32} {v4 : Int32} {v5 : Int32} {o : (Int32 × Int32 × Int32) ⊕ (Nat × Int32)} (h : Or_railAt_n21 σ k0 v1 v2 v3 v4 v5 = some o) (hC : ∀ s, o = .inl s → pw l (px_R 5) y_Or_railAt c_Or_railAt 6 (some .int) 21 [(0, .inr (some (2, k0, 0))), (1, .inl v1), (2, .inl s.1), (3, .inl v3), (4, .inl s.2.1), (5, .inl s.2.2)] [] ids cG σ 0 0 Rt) (hX0 : ∀ e, o = .inr e → e.1 = 0 → pw l (px_R 5) y_Or_railAt c_Or_railAt 6 (some .int) 51 [] [] ids cG σ 0 0 Rt) (hX1 : ∀ e, o = .inr e → e.1 = 1 → pw l (px_R 5) y_Or_railAt c_Or_railAt 6 (some .int) 69 [(4, .inl e.2)] [] ids cG σ 0 0 Rt) : pw l (px_R 5) y_Or_railAt c_Or_railAt 6 (some .int) 21 [(0, .inr (some (2, k0, 0))), (1, .inl v1), (2, .inl v2), (3, .inl v3), (4, .inl v4), (5, .inl v5)] [] ids cG σ 0 0 Rt := by
  unfold Or_railAt_n21 at h
  refine pw_iload 5 (px_at td_Or_railAt 12 rfl) rfl ?_
  refine pw_iload_n 1 (px_at td_Or_railAt 13 rfl) rfl rfl ?_
  rcases px_ite h with ⟨hc7, h⟩ | ⟨hc7, h⟩
  · refine pw_icmp_gt 69 (px_at td_Or_railAt 14 rfl) (by decide) (fun _ => ?_) (fun hn => absurd hc7 hn)
    refine pw_L [(4, .inl v4)] [4] rfl ?_
    exact hX1 (1, v4) (Option.some.inj h).symm rfl
  · refine pw_icmp_gt 69 (px_at td_Or_railAt 14 rfl) (by decide) (fun hn => absurd hn hc7) (fun _ => ?_)
    refine pw_iload 5 (px_at td_Or_railAt 15 rfl) rfl ?_
    refine pw_bipush (v := 12) (px_at td_Or_railAt 16 rfl) (by decide) ?_
    rcases px_ite h with ⟨hc6, h⟩ | ⟨hc6, h⟩
    · refine pw_icmp_ge 69 (px_at td_Or_railAt 17 rfl) (by decide) (fun _ => ?_) (fun hn => absurd hc6 hn)
      refine pw_L [(4, .inl v4)] [4] rfl ?_
      exact hX1 (1, v4) (Option.some.inj h).symm rfl
    · refine pw_icmp_ge 69 (px_at td_Or_railAt 17 rfl) (by decide) (fun hn => absurd hn hc6) (fun _ => ?_)
      refine pw_iload_n 3 (px_at td_Or_railAt 18 rfl) rfl rfl ?_
      rcases px_ite h with ⟨hc5, h⟩ | ⟨hc5, h⟩
      · refine pw_if_lt 69 (px_at td_Or_railAt 19 rfl) (by decide) (fun _ => ?_) (fun hn => absurd hc5 hn)
        refine pw_L [(4, .inl v4)] [4] rfl ?_
        exact hX1 (1, v4) (Option.some.inj h).symm rfl
      · refine pw_if_lt 69 (px_at td_Or_railAt 19 rfl) (by decide) (fun hn => absurd hn hc5) (fun _ => ?_)
        refine pw_aload_n 0 (px_at td_Or_railAt 20 rfl) rfl rfl ?_
        refine pw_iload_n 2 (px_at td_Or_railAt 21 rfl) rfl rfl ?_
        refine pw_iload_n 3 (px_at td_Or_railAt 22 rfl) rfl rfl ?_
        obtain ⟨r3, hk3, h⟩ := px_b1_e h
        refine pw_cS1 [.inr (some (2, k0, 0)), .inl v2, .inl v3] [] (px_at td_Or_railAt 23 rfl) lS_Or_58 rfl rfl (Nat.le_of_ble_eq_true rfl) (by decide) (k_Or_firstThatFits hk3) ?_
        refine pw_istore (L' := [(4, .inl r3), (0, .inr (some (2, k0, 0))), (1, .inl v1), (2, .inl v2), (3, .inl v3), (5, .inl v5)]) (px_at td_Or_railAt 24 rfl) (by decide) rfl ?_
        refine pw_iload 0 (px_at td_Or_railAt 25 rfl) rfl ?_
        rcases px_ite h with ⟨hc4, h⟩ | ⟨hc4, h⟩
        · refine pw_if_ge 54 (px_at td_Or_railAt 26 rfl) (by decide) (fun _ => ?_) (fun hn => absurd hc4 hn)
          refine pw_iload_n 3 (px_at td_Or_railAt 29 rfl) rfl rfl ?_
          refine pw_iconst (v := 1) (px_at td_Or_railAt 30 rfl) (by decide) ?_
          refine pw_iload 0 (px_at td_Or_railAt 31 rfl) rfl ?_
          refine pw_ishl (px_at td_Or_railAt 32 rfl) ?_
          refine pw_iconst (v := (-1)) (px_at td_Or_railAt 33 rfl) (by decide) ?_
          refine pw_ixor (px_at td_Or_railAt 34 rfl) ?_
          refine pw_iand (px_at td_Or_railAt 35 rfl) ?_
          refine pw_istore_n (L' := [(2, .inl (v2 &&& ((1 <<< (r3 &&& 31)) ^^^ (-1)))), (4, .inl r3), (0, .inr (some (2, k0, 0))), (1, .inl v1), (3, .inl v3), (5, .inl v5)]) (px_at td_Or_railAt 36 rfl) rfl (by decide) rfl ?_
          refine pw_iinc (q := 5) (v := (v5 + 1)) (L' := [(5, .inl (v5 + 1)), (2, .inl (v2 &&& ((1 <<< (r3 &&& 31)) ^^^ (-1)))), (4, .inl r3), (0, .inr (some (2, k0, 0))), (1, .inl v1), (3, .inl v3)]) (px_at td_Or_railAt 37 rfl) rfl rfl (by decide) rfl ?_
          refine pw_goto 21 (px_at td_Or_railAt 38 rfl) (by decide) ?_
          refine pw_L [(0, .inr (some (2, k0, 0))), (1, .inl v1), (2, .inl (v2 &&& ((1 <<< (r3 &&& 31)) ^^^ (-1)))), (3, .inl v3), (4, .inl r3), (5, .inl (v5 + 1))] [3, 4, 1, 5, 2, 0] rfl ?_
          exact hC ((v2 &&& ((1 <<< (r3 &&& 31)) ^^^ (-1))), r3, (v5 + 1)) (Option.some.inj h).symm
        · refine pw_if_ge 54 (px_at td_Or_railAt 26 rfl) (by decide) (fun hn => absurd hn hc4) (fun _ => ?_)
          refine pw_L [] [] rfl ?_
          exact hX0 (0, 0) (Option.some.inj h).symm rfl
def Or_railAt_L21 (σ : pxS) (k0 : Nat) (v1 : Int32) (v3 : Int32) : (Int32 × Int32 × Int32) → Option ((Int32 × Int32 × Int32) ⊕ (Nat × Int32)) := fun s => Or_railAt_n21 σ k0 v1 s.1 v3 s.2.1 s.2.2
set_option maxRecDepth 100000 in
theorem Or_railAt_L21_l {l : Launch} {ids : List pxI} {Rt : Option pxV → List pxI → pxG → pxS → Prop} {σ : pxS} {k0 : Nat} {v1 : Int32} {v3 : Int32} {n : Nat} {s : Int32 × Int32 × Int32} {e : Nat × Int32} (h : px_it (Or_railAt_L21 σ k0 v1 v3) n s = some e) (hX0 : e.1 = 0 → pw l (px_R 5) y_Or_railAt c_Or_railAt 6 (some .int) 51 [] [] ids cG σ 0 0 Rt) (hX1 : e.1 = 1 → pw l (px_R 5) y_Or_railAt c_Or_railAt 6 (some .int) 69 [(4, .inl e.2)] [] ids cG σ 0 0 Rt) : pw l (px_R 5) y_Or_railAt c_Or_railAt 6 (some .int) 21 [(0, .inr (some (2, k0, 0))), (1, .inl v1), (2, .inl s.1), (3, .inl v3), (4, .inl s.2.1), (5, .inl s.2.2)] [] ids cG σ 0 0 Rt := by
  refine px_it_rule (f := Or_railAt_L21 σ k0 v1 v3) (C := fun s => pw l (px_R 5) y_Or_railAt c_Or_railAt 6 (some .int) 21 [(0, .inr (some (2, k0, 0))), (1, .inl v1), (2, .inl s.1), (3, .inl v3), (4, .inl s.2.1), (5, .inl s.2.2)] [] ids cG σ 0 0 Rt) (X := fun e => (e.1 = 0 → pw l (px_R 5) y_Or_railAt c_Or_railAt 6 (some .int) 51 [] [] ids cG σ 0 0 Rt) ∧ (e.1 = 1 → pw l (px_R 5) y_Or_railAt c_Or_railAt 6 (some .int) 69 [(4, .inl e.2)] [] ids cG σ 0 0 Rt)) ?_ ?_ n s e h ⟨hX0, hX1⟩
  · intro s s1 hf hC
    exact Or_railAt_n21_l hf (fun s2 hs => by cases hs; exact hC) (fun e he ht => by cases he) (fun e he ht => by cases he)
  · intro s e hf hX
    exact Or_railAt_n21_l hf (fun s2 hs => by cases hs) (fun e1 he ht => by cases he; exact hX.1 ht) (fun e1 he ht => by cases he; exact hX.2 ht)
def F_Or_railAt (σ : pxS) (k0 : Nat) (v1 : Int32) : Option (Int32) :=
  px_b1 (F_Pl_allRails σ (σ (2, k0, 0) 4)) fun r1 =>
  px_b1 (F_Or_leastHeat σ k0 r1) fun r2 =>
  px_b1 (px_it (Or_railAt_L21 σ k0 v1 r2) px_N (r1, (-2), 0)) fun e8 =>
  (if e8.1 = 0 then some ((-2)) else some (e8.2))
set_option maxRecDepth 100000 in
theorem e_Or_railAt {l : Launch} {ids : List pxI} {Rt : Option pxV → List pxI → pxG → pxS → Prop} {σ : pxS} {k0 : Nat} {v1 : Int32} {res : Int32} (h : F_Or_railAt σ k0 v1 = some res) (hR : Rt (some (.inl res)) ids cG σ) : pw l (px_R 5) y_Or_railAt c_Or_railAt 6 (some .int) 0 [(0, .inr (some (2, k0, 0))), (1, .inl v1)] [] ids cG σ 0 0 Rt := by
  unfold F_Or_railAt at h
  refine pw_aload_n 0 (px_at td_Or_railAt 0 rfl) rfl rfl ?_
  refine pw_getf (v := .inr (some (1, (σ (2, k0, 0) 4).toNatClampNeg, 0))) (px_at td_Or_railAt 1 rfl) lf_Or_9 rfl rfl rfl ?_
  obtain ⟨r1, hk1, h⟩ := px_b1_e h
  refine pw_cV1 (1, (σ (2, k0, 0) 4).toNatClampNeg, 0) [] [] (px_at td_Or_railAt 2 rfl) lV_Or_50 rfl rfl rfl (Nat.le_of_ble_eq_true rfl) (by decide) (k_Pl_allRails hk1) ?_
  refine pw_istore_n (L' := [(2, .inl r1), (0, .inr (some (2, k0, 0))), (1, .inl v1)]) (px_at td_Or_railAt 3 rfl) rfl (by decide) rfl ?_
  refine pw_aload_n 1 (px_at td_Or_railAt 4 rfl) rfl rfl ?_
  refine pw_iload_n 0 (px_at td_Or_railAt 5 rfl) rfl rfl ?_
  obtain ⟨r2, hk2, h⟩ := px_b1_e h
  refine pw_cS1 [.inr (some (2, k0, 0)), .inl r1] [] (px_at td_Or_railAt 6 rfl) lS_Or_54 rfl rfl (Nat.le_of_ble_eq_true rfl) (by decide) (k_Or_leastHeat hk2) ?_
  refine pw_istore_n (L' := [(3, .inl r2), (2, .inl r1), (0, .inr (some (2, k0, 0))), (1, .inl v1)]) (px_at td_Or_railAt 7 rfl) rfl (by decide) rfl ?_
  refine pw_bipush (v := (-2)) (px_at td_Or_railAt 8 rfl) (by decide) ?_
  refine pw_istore (L' := [(4, .inl (-2)), (3, .inl r2), (2, .inl r1), (0, .inr (some (2, k0, 0))), (1, .inl v1)]) (px_at td_Or_railAt 9 rfl) (by decide) rfl ?_
  refine pw_iconst (v := 0) (px_at td_Or_railAt 10 rfl) (by decide) ?_
  refine pw_istore (L' := [(5, .inl 0), (4, .inl (-2)), (3, .inl r2), (2, .inl r1), (0, .inr (some (2, k0, 0))), (1, .inl v1)]) (px_at td_Or_railAt 11 rfl) (by decide) rfl ?_
  obtain ⟨e8, he8, h⟩ := px_b1_e h
  refine pw_L [(0, .inr (some (2, k0, 0))), (1, .inl v1), (2, .inl r1), (3, .inl r2), (4, .inl (-2)), (5, .inl 0)] [4, 5, 3, 2, 1, 0] rfl ?_
  refine Or_railAt_L21_l he8 (fun ht0 => ?_) (fun ht1 => ?_)
  · rw [if_pos ht0] at h
    refine pw_bipush (v := (-2)) (px_at td_Or_railAt 27 rfl) (by decide) ?_
    obtain rfl := Option.some.inj h
    exact pw_iret (px_at td_Or_railAt 28 rfl) rfl (Nat.le_refl 0) (Nat.le_refl 0) hR
  · rw [if_neg (by rw [ht1]; decide)] at h
    refine pw_iload 0 (px_at td_Or_railAt 39 rfl) rfl ?_
    obtain rfl := Option.some.inj h
    exact pw_iret (px_at td_Or_railAt 40 rfl) rfl (Nat.le_refl 0) (Nat.le_refl 0) hR
theorem k_Or_railAt {l : Launch} {ids : List pxI} {σ : pxS} {k0 : Nat} {v1 : Int32} {res : Int32} (h : F_Or_railAt σ k0 v1 = some res) : pm l y_Or_railAt c_Or_railAt 6 (some .int) (px_R 5) [.inr (some (2, k0, 0)), .inl v1] ids cG σ (px_r (some (.inl res)) ids cG σ) :=
  pm_ofF (by decide +kernel) (Nat.le_of_ble_eq_true rfl) (e_Or_railAt h ⟨rfl, rfl, rfl, rfl⟩)
/-! Ri_within -/
def Ri_within_n4 (σ : pxS) (p0 : Int32) (v1 : Int32) (v2 : Int32) : Option ((Int32 × Int32) ⊕ (Int32)) :=
  (if (σ (1, p0.toNatClampNeg, 0) 0) ≤ v2 then some (.inr v1) else px_gd v2 12 (some (.inl ((v1 ||| ((σ (8, p0.toNatClampNeg, 9) v2.toNatClampNeg) &&& (1 <<< (v2 &&& 31)))), (v2 + 1)))))
set_option maxRecDepth 100000 in
theorem Ri_within_n4_l {l : Launch} {ids : List pxI} {Rt : Option pxV → List pxI → pxG → pxS → Prop} {σ : pxS} {p0 : Int32} {v1 : Int32} {v2 : Int32} {o : (Int32 × Int32) ⊕ (Int32)} (h : Ri_within_n4 σ p0 v1 v2 = some o) (hC : ∀ s, o = .inl s → pw l (px_R 1) y_Ri_within c_Ri_within 3 (some .int) 4 [(0, .inr (some (1, p0.toNatClampNeg, 0))), (1, .inl s.1), (2, .inl s.2)] [] ids cG σ 0 0 Rt) (hX0 : ∀ e, o = .inr e → pw l (px_R 1) y_Ri_within c_Ri_within 3 (some .int) 31 [(1, .inl e)] [] ids cG σ 0 0 Rt) : pw l (px_R 1) y_Ri_within c_Ri_within 3 (some .int) 4 [(0, .inr (some (1, p0.toNatClampNeg, 0))), (1, .inl v1), (2, .inl v2)] [] ids cG σ 0 0 Rt := by
  unfold Ri_within_n4 at h
  refine pw_iload_n 2 (px_at td_Ri_within 4 rfl) rfl rfl ?_
  refine pw_aload_n 0 (px_at td_Ri_within 5 rfl) rfl rfl ?_
  refine pw_getf (v := .inl (σ (1, p0.toNatClampNeg, 0) 0)) (px_at td_Ri_within 6 rfl) lf_Ri_9 rfl rfl rfl ?_
  rcases px_ite h with ⟨hc2, h⟩ | ⟨hc2, h⟩
  · refine pw_icmp_ge 31 (px_at td_Ri_within 7 rfl) (by decide) (fun _ => ?_) (fun hn => absurd hc2 hn)
    refine pw_L [(1, .inl v1)] [1] rfl ?_
    exact hX0 v1 (Option.some.inj h).symm
  · refine pw_icmp_ge 31 (px_at td_Ri_within 7 rfl) (by decide) (fun hn => absurd hn hc2) (fun _ => ?_)
    refine pw_iload_n 1 (px_at td_Ri_within 8 rfl) rfl rfl ?_
    refine pw_aload_n 0 (px_at td_Ri_within 9 rfl) rfl rfl ?_
    refine pw_getf (v := .inr (some (8, p0.toNatClampNeg, 9))) (px_at td_Ri_within 10 rfl) lf_Ri_15 rfl rfl rfl ?_
    refine pw_iload_n 2 (px_at td_Ri_within 11 rfl) rfl rfl ?_
    obtain ⟨hi1, h⟩ := px_gd_e h
    refine pw_ial (px_at td_Ri_within 12 rfl) rfl hi1 rfl ?_
    refine pw_iconst (v := 1) (px_at td_Ri_within 13 rfl) (by decide) ?_
    refine pw_iload_n 2 (px_at td_Ri_within 14 rfl) rfl rfl ?_
    refine pw_ishl (px_at td_Ri_within 15 rfl) ?_
    refine pw_iand (px_at td_Ri_within 16 rfl) ?_
    refine pw_ior (px_at td_Ri_within 17 rfl) ?_
    refine pw_istore_n (L' := [(1, .inl (v1 ||| ((σ (8, p0.toNatClampNeg, 9) v2.toNatClampNeg) &&& (1 <<< (v2 &&& 31))))), (0, .inr (some (1, p0.toNatClampNeg, 0))), (2, .inl v2)]) (px_at td_Ri_within 18 rfl) rfl (by decide) rfl ?_
    refine pw_iinc (q := 2) (v := (v2 + 1)) (L' := [(2, .inl (v2 + 1)), (1, .inl (v1 ||| ((σ (8, p0.toNatClampNeg, 9) v2.toNatClampNeg) &&& (1 <<< (v2 &&& 31))))), (0, .inr (some (1, p0.toNatClampNeg, 0)))]) (px_at td_Ri_within 19 rfl) rfl rfl (by decide) rfl ?_
    refine pw_goto 4 (px_at td_Ri_within 20 rfl) (by decide) ?_
    refine pw_L [(0, .inr (some (1, p0.toNatClampNeg, 0))), (1, .inl (v1 ||| ((σ (8, p0.toNatClampNeg, 9) v2.toNatClampNeg) &&& (1 <<< (v2 &&& 31))))), (2, .inl (v2 + 1))] [2, 1, 0] rfl ?_
    exact hC ((v1 ||| ((σ (8, p0.toNatClampNeg, 9) v2.toNatClampNeg) &&& (1 <<< (v2 &&& 31)))), (v2 + 1)) (Option.some.inj h).symm
def Ri_within_L4 (σ : pxS) (p0 : Int32) : (Int32 × Int32) → Option ((Int32 × Int32) ⊕ (Int32)) := fun s => Ri_within_n4 σ p0 s.1 s.2
set_option maxRecDepth 100000 in
theorem Ri_within_L4_l {l : Launch} {ids : List pxI} {Rt : Option pxV → List pxI → pxG → pxS → Prop} {σ : pxS} {p0 : Int32} {n : Nat} {s : Int32 × Int32} {e : Int32} (h : px_it (Ri_within_L4 σ p0) n s = some e) (hX0 : pw l (px_R 1) y_Ri_within c_Ri_within 3 (some .int) 31 [(1, .inl e)] [] ids cG σ 0 0 Rt) : pw l (px_R 1) y_Ri_within c_Ri_within 3 (some .int) 4 [(0, .inr (some (1, p0.toNatClampNeg, 0))), (1, .inl s.1), (2, .inl s.2)] [] ids cG σ 0 0 Rt := by
  refine px_it_rule (f := Ri_within_L4 σ p0) (C := fun s => pw l (px_R 1) y_Ri_within c_Ri_within 3 (some .int) 4 [(0, .inr (some (1, p0.toNatClampNeg, 0))), (1, .inl s.1), (2, .inl s.2)] [] ids cG σ 0 0 Rt) (X := fun e => (pw l (px_R 1) y_Ri_within c_Ri_within 3 (some .int) 31 [(1, .inl e)] [] ids cG σ 0 0 Rt)) ?_ ?_ n s e h hX0
  · intro s s1 hf hC
    exact Ri_within_n4_l hf (fun s2 hs => by cases hs; exact hC) (fun e he => by cases he)
  · intro s e hf hX
    exact Ri_within_n4_l hf (fun s2 hs => by cases hs) (fun e1 he => by cases he; exact hX)
def F_Ri_within (σ : pxS) (p0 : Int32) : Option (Int32) :=
  px_b1 (px_it (Ri_within_L4 σ p0) px_N (0, 0)) fun e3 =>
  some (e3)
set_option maxRecDepth 100000 in
theorem e_Ri_within {l : Launch} {ids : List pxI} {Rt : Option pxV → List pxI → pxG → pxS → Prop} {σ : pxS} {p0 : Int32} {res : Int32} (h : F_Ri_within σ p0 = some res) (hR : Rt (some (.inl res)) ids cG σ) : pw l (px_R 1) y_Ri_within c_Ri_within 3 (some .int) 0 [(0, .inr (some (1, p0.toNatClampNeg, 0)))] [] ids cG σ 0 0 Rt := by
  unfold F_Ri_within at h
  refine pw_iconst (v := 0) (px_at td_Ri_within 0 rfl) (by decide) ?_
  refine pw_istore_n (L' := [(1, .inl 0), (0, .inr (some (1, p0.toNatClampNeg, 0)))]) (px_at td_Ri_within 1 rfl) rfl (by decide) rfl ?_
  refine pw_iconst (v := 0) (px_at td_Ri_within 2 rfl) (by decide) ?_
  refine pw_istore_n (L' := [(2, .inl 0), (1, .inl 0), (0, .inr (some (1, p0.toNatClampNeg, 0)))]) (px_at td_Ri_within 3 rfl) rfl (by decide) rfl ?_
  obtain ⟨e3, he3, h⟩ := px_b1_e h
  refine pw_L [(0, .inr (some (1, p0.toNatClampNeg, 0))), (1, .inl 0), (2, .inl 0)] [2, 1, 0] rfl ?_
  refine Ri_within_L4_l he3 ?_
  refine pw_iload_n 0 (px_at td_Ri_within 21 rfl) rfl rfl ?_
  obtain rfl := Option.some.inj h
  exact pw_iret (px_at td_Ri_within 22 rfl) rfl (Nat.le_refl 0) (Nat.le_refl 0) hR
theorem k_Ri_within {l : Launch} {ids : List pxI} {σ : pxS} {p0 : Int32} {res : Int32} (h : F_Ri_within σ p0 = some res) : pm l y_Ri_within c_Ri_within 3 (some .int) (px_R 1) [.inr (some (1, p0.toNatClampNeg, 0))] ids cG σ (px_r (some (.inl res)) ids cG σ) :=
  pm_ofF (by decide +kernel) (Nat.le_of_ble_eq_true rfl) (e_Ri_within h ⟨rfl, rfl, rfl, rfl⟩)
/-! Ri_withinOrAbove -/
def Ri_withinOrAbove_n34 (σ : pxS) (p0 : Int32) (v1 : Int32) (v2 : Int32) (v3 : Int32) : Option ((Int32 × Int32) ⊕ (Int32)) :=
  some (.inl (v2, (v3 + 1)))
set_option maxRecDepth 100000 in
theorem Ri_withinOrAbove_n34_l {l : Launch} {ids : List pxI} {Rt : Option pxV → List pxI → pxG → pxS → Prop} {σ : pxS} {p0 : Int32} {v1 : Int32} {v2 : Int32} {v3 : Int32} {o : (Int32 × Int32) ⊕ (Int32)} (h : Ri_withinOrAbove_n34 σ p0 v1 v2 v3 = some o) (hC : ∀ s, o = .inl s → pw l (px_R 2) y_Ri_withinOrAbove c_Ri_withinOrAbove 4 (some .int) 9 [(0, .inr (some (1, p0.toNatClampNeg, 0))), (1, .inl v1), (2, .inl s.1), (3, .inl s.2)] [] ids cG σ 0 0 Rt) (hX0 : ∀ e, o = .inr e → pw l (px_R 2) y_Ri_withinOrAbove c_Ri_withinOrAbove 4 (some .int) 40 [(2, .inl e)] [] ids cG σ 0 0 Rt) : pw l (px_R 2) y_Ri_withinOrAbove c_Ri_withinOrAbove 4 (some .int) 34 [(0, .inr (some (1, p0.toNatClampNeg, 0))), (1, .inl v1), (2, .inl v2), (3, .inl v3)] [] ids cG σ 0 0 Rt := by
  unfold Ri_withinOrAbove_n34 at h
  refine pw_iinc (q := 3) (v := (v3 + 1)) (L' := [(3, .inl (v3 + 1)), (0, .inr (some (1, p0.toNatClampNeg, 0))), (1, .inl v1), (2, .inl v2)]) (px_at td_Ri_withinOrAbove 24 rfl) rfl rfl (by decide) rfl ?_
  refine pw_goto 9 (px_at td_Ri_withinOrAbove 25 rfl) (by decide) ?_
  refine pw_L [(0, .inr (some (1, p0.toNatClampNeg, 0))), (1, .inl v1), (2, .inl v2), (3, .inl (v3 + 1))] [1, 2, 3, 0] rfl ?_
  exact hC (v2, (v3 + 1)) (Option.some.inj h).symm
def Ri_withinOrAbove_n9 (σ : pxS) (p0 : Int32) (v1 : Int32) (v2 : Int32) (v3 : Int32) : Option ((Int32 × Int32) ⊕ (Int32)) :=
  (if (σ (1, p0.toNatClampNeg, 0) 0) ≤ v3 then some (.inr v2) else px_gd v3 12 ((if ((σ (8, p0.toNatClampNeg, 9) v3.toNatClampNeg) &&& v1) = 0 then Ri_withinOrAbove_n34 σ p0 v1 v2 v3 else Ri_withinOrAbove_n34 σ p0 v1 (v2 ||| (1 <<< (v3 &&& 31))) v3)))
set_option maxRecDepth 100000 in
theorem Ri_withinOrAbove_n9_l {l : Launch} {ids : List pxI} {Rt : Option pxV → List pxI → pxG → pxS → Prop} {σ : pxS} {p0 : Int32} {v1 : Int32} {v2 : Int32} {v3 : Int32} {o : (Int32 × Int32) ⊕ (Int32)} (h : Ri_withinOrAbove_n9 σ p0 v1 v2 v3 = some o) (hC : ∀ s, o = .inl s → pw l (px_R 2) y_Ri_withinOrAbove c_Ri_withinOrAbove 4 (some .int) 9 [(0, .inr (some (1, p0.toNatClampNeg, 0))), (1, .inl v1), (2, .inl s.1), (3, .inl s.2)] [] ids cG σ 0 0 Rt) (hX0 : ∀ e, o = .inr e → pw l (px_R 2) y_Ri_withinOrAbove c_Ri_withinOrAbove 4 (some .int) 40 [(2, .inl e)] [] ids cG σ 0 0 Rt) : pw l (px_R 2) y_Ri_withinOrAbove c_Ri_withinOrAbove 4 (some .int) 9 [(0, .inr (some (1, p0.toNatClampNeg, 0))), (1, .inl v1), (2, .inl v2), (3, .inl v3)] [] ids cG σ 0 0 Rt := by
  unfold Ri_withinOrAbove_n9 at h
  refine pw_iload_n 3 (px_at td_Ri_withinOrAbove 7 rfl) rfl rfl ?_
  refine pw_aload_n 0 (px_at td_Ri_withinOrAbove 8 rfl) rfl rfl ?_
  refine pw_getf (v := .inl (σ (1, p0.toNatClampNeg, 0) 0)) (px_at td_Ri_withinOrAbove 9 rfl) lf_Ri_9 rfl rfl rfl ?_
  rcases px_ite h with ⟨hc4, h⟩ | ⟨hc4, h⟩
  · refine pw_icmp_ge 40 (px_at td_Ri_withinOrAbove 10 rfl) (by decide) (fun _ => ?_) (fun hn => absurd hc4 hn)
    refine pw_L [(2, .inl v2)] [2] rfl ?_
    exact hX0 v2 (Option.some.inj h).symm
  · refine pw_icmp_ge 40 (px_at td_Ri_withinOrAbove 10 rfl) (by decide) (fun hn => absurd hn hc4) (fun _ => ?_)
    refine pw_aload_n 0 (px_at td_Ri_withinOrAbove 11 rfl) rfl rfl ?_
    refine pw_getf (v := .inr (some (8, p0.toNatClampNeg, 9))) (px_at td_Ri_withinOrAbove 12 rfl) lf_Ri_15 rfl rfl rfl ?_
    refine pw_iload_n 3 (px_at td_Ri_withinOrAbove 13 rfl) rfl rfl ?_
    obtain ⟨hi2, h⟩ := px_gd_e h
    refine pw_ial (px_at td_Ri_withinOrAbove 14 rfl) rfl hi2 rfl ?_
    refine pw_iload_n 1 (px_at td_Ri_withinOrAbove 15 rfl) rfl rfl ?_
    refine pw_iand (px_at td_Ri_withinOrAbove 16 rfl) ?_
    rcases px_ite h with ⟨hc3, h⟩ | ⟨hc3, h⟩
    · refine pw_if_eq 34 (px_at td_Ri_withinOrAbove 17 rfl) (by decide) (fun _ => ?_) (fun hn => absurd hc3 hn)
      exact Ri_withinOrAbove_n34_l h hC hX0
    · refine pw_if_eq 34 (px_at td_Ri_withinOrAbove 17 rfl) (by decide) (fun hn => absurd hn hc3) (fun _ => ?_)
      refine pw_iload_n 2 (px_at td_Ri_withinOrAbove 18 rfl) rfl rfl ?_
      refine pw_iconst (v := 1) (px_at td_Ri_withinOrAbove 19 rfl) (by decide) ?_
      refine pw_iload_n 3 (px_at td_Ri_withinOrAbove 20 rfl) rfl rfl ?_
      refine pw_ishl (px_at td_Ri_withinOrAbove 21 rfl) ?_
      refine pw_ior (px_at td_Ri_withinOrAbove 22 rfl) ?_
      refine pw_istore_n (L' := [(2, .inl (v2 ||| (1 <<< (v3 &&& 31)))), (0, .inr (some (1, p0.toNatClampNeg, 0))), (1, .inl v1), (3, .inl v3)]) (px_at td_Ri_withinOrAbove 23 rfl) rfl (by decide) rfl ?_
      refine pw_L [(0, .inr (some (1, p0.toNatClampNeg, 0))), (1, .inl v1), (2, .inl (v2 ||| (1 <<< (v3 &&& 31)))), (3, .inl v3)] [1, 2, 0, 3] rfl ?_
      exact Ri_withinOrAbove_n34_l h hC hX0
def Ri_withinOrAbove_L9 (σ : pxS) (p0 : Int32) (v1 : Int32) : (Int32 × Int32) → Option ((Int32 × Int32) ⊕ (Int32)) := fun s => Ri_withinOrAbove_n9 σ p0 v1 s.1 s.2
set_option maxRecDepth 100000 in
theorem Ri_withinOrAbove_L9_l {l : Launch} {ids : List pxI} {Rt : Option pxV → List pxI → pxG → pxS → Prop} {σ : pxS} {p0 : Int32} {v1 : Int32} {n : Nat} {s : Int32 × Int32} {e : Int32} (h : px_it (Ri_withinOrAbove_L9 σ p0 v1) n s = some e) (hX0 : pw l (px_R 2) y_Ri_withinOrAbove c_Ri_withinOrAbove 4 (some .int) 40 [(2, .inl e)] [] ids cG σ 0 0 Rt) : pw l (px_R 2) y_Ri_withinOrAbove c_Ri_withinOrAbove 4 (some .int) 9 [(0, .inr (some (1, p0.toNatClampNeg, 0))), (1, .inl v1), (2, .inl s.1), (3, .inl s.2)] [] ids cG σ 0 0 Rt := by
  refine px_it_rule (f := Ri_withinOrAbove_L9 σ p0 v1) (C := fun s => pw l (px_R 2) y_Ri_withinOrAbove c_Ri_withinOrAbove 4 (some .int) 9 [(0, .inr (some (1, p0.toNatClampNeg, 0))), (1, .inl v1), (2, .inl s.1), (3, .inl s.2)] [] ids cG σ 0 0 Rt) (X := fun e => (pw l (px_R 2) y_Ri_withinOrAbove c_Ri_withinOrAbove 4 (some .int) 40 [(2, .inl e)] [] ids cG σ 0 0 Rt)) ?_ ?_ n s e h hX0
  · intro s s1 hf hC
    exact Ri_withinOrAbove_n9_l hf (fun s2 hs => by cases hs; exact hC) (fun e he => by cases he)
  · intro s e hf hX
    exact Ri_withinOrAbove_n9_l hf (fun s2 hs => by cases hs) (fun e1 he => by cases he; exact hX)
def F_Ri_withinOrAbove (σ : pxS) (p0 : Int32) : Option (Int32) :=
  px_b1 (F_Ri_within σ p0) fun r1 =>
  px_b1 (px_it (Ri_withinOrAbove_L9 σ p0 r1) px_N (r1, 0)) fun e5 =>
  some (e5)
set_option maxRecDepth 100000 in
theorem e_Ri_withinOrAbove {l : Launch} {ids : List pxI} {Rt : Option pxV → List pxI → pxG → pxS → Prop} {σ : pxS} {p0 : Int32} {res : Int32} (h : F_Ri_withinOrAbove σ p0 = some res) (hR : Rt (some (.inl res)) ids cG σ) : pw l (px_R 2) y_Ri_withinOrAbove c_Ri_withinOrAbove 4 (some .int) 0 [(0, .inr (some (1, p0.toNatClampNeg, 0)))] [] ids cG σ 0 0 Rt := by
  unfold F_Ri_withinOrAbove at h
  refine pw_aload_n 0 (px_at td_Ri_withinOrAbove 0 rfl) rfl rfl ?_
  obtain ⟨r1, hk1, h⟩ := px_b1_e h
  refine pw_cS1 [.inr (some (1, p0.toNatClampNeg, 0))] [] (px_at td_Ri_withinOrAbove 1 rfl) lS_Ri_19 rfl rfl (Nat.le_of_ble_eq_true rfl) (by decide) (k_Ri_within hk1) ?_
  refine pw_istore_n (L' := [(1, .inl r1), (0, .inr (some (1, p0.toNatClampNeg, 0)))]) (px_at td_Ri_withinOrAbove 2 rfl) rfl (by decide) rfl ?_
  refine pw_iload_n 0 (px_at td_Ri_withinOrAbove 3 rfl) rfl rfl ?_
  refine pw_istore_n (L' := [(2, .inl r1), (1, .inl r1), (0, .inr (some (1, p0.toNatClampNeg, 0)))]) (px_at td_Ri_withinOrAbove 4 rfl) rfl (by decide) rfl ?_
  refine pw_iconst (v := 0) (px_at td_Ri_withinOrAbove 5 rfl) (by decide) ?_
  refine pw_istore_n (L' := [(3, .inl 0), (2, .inl r1), (1, .inl r1), (0, .inr (some (1, p0.toNatClampNeg, 0)))]) (px_at td_Ri_withinOrAbove 6 rfl) rfl (by decide) rfl ?_
  obtain ⟨e5, he5, h⟩ := px_b1_e h
  refine pw_L [(0, .inr (some (1, p0.toNatClampNeg, 0))), (1, .inl r1), (2, .inl r1), (3, .inl 0)] [3, 2, 1, 0] rfl ?_
  refine Ri_withinOrAbove_L9_l he5 ?_
  refine pw_iload_n 0 (px_at td_Ri_withinOrAbove 26 rfl) rfl rfl ?_
  obtain rfl := Option.some.inj h
  exact pw_iret (px_at td_Ri_withinOrAbove 27 rfl) rfl (Nat.le_refl 0) (Nat.le_refl 0) hR
theorem k_Ri_withinOrAbove {l : Launch} {ids : List pxI} {σ : pxS} {p0 : Int32} {res : Int32} (h : F_Ri_withinOrAbove σ p0 = some res) : pm l y_Ri_withinOrAbove c_Ri_withinOrAbove 4 (some .int) (px_R 2) [.inr (some (1, p0.toNatClampNeg, 0))] ids cG σ (px_r (some (.inl res)) ids cG σ) :=
  pm_ofF (by decide +kernel) (Nat.le_of_ble_eq_true rfl) (e_Ri_withinOrAbove h ⟨rfl, rfl, rfl, rfl⟩)
/-! Ri_lowest -/
def Ri_lowest_n2 (σ : pxS) (v0 : Int32) (v1 : Int32) : Option ((Int32) ⊕ (Int32)) :=
  (if 12 ≤ v1 then some (.inr v1) else (if ((v0 >>> (v1 &&& 31)) &&& 1) = 0 then some (.inl (v1 + 1)) else some (.inr v1)))
set_option maxRecDepth 100000 in
theorem Ri_lowest_n2_l {l : Launch} {ids : List pxI} {Rt : Option pxV → List pxI → pxG → pxS → Prop} {σ : pxS} {v0 : Int32} {v1 : Int32} {o : (Int32) ⊕ (Int32)} (h : Ri_lowest_n2 σ v0 v1 = some o) (hC : ∀ s, o = .inl s → pw l (px_R 1) y_Ri_lowest c_Ri_lowest 2 (some .int) 2 [(0, .inl v0), (1, .inl s)] [] ids cG σ 0 0 Rt) (hX0 : ∀ e, o = .inr e → pw l (px_R 1) y_Ri_lowest c_Ri_lowest 2 (some .int) 22 [(1, .inl e)] [] ids cG σ 0 0 Rt) : pw l (px_R 1) y_Ri_lowest c_Ri_lowest 2 (some .int) 2 [(0, .inl v0), (1, .inl v1)] [] ids cG σ 0 0 Rt := by
  unfold Ri_lowest_n2 at h
  refine pw_iload_n 1 (px_at td_Ri_lowest 2 rfl) rfl rfl ?_
  refine pw_bipush (v := 12) (px_at td_Ri_lowest 3 rfl) (by decide) ?_
  rcases px_ite h with ⟨hc2, h⟩ | ⟨hc2, h⟩
  · refine pw_icmp_ge 22 (px_at td_Ri_lowest 4 rfl) (by decide) (fun _ => ?_) (fun hn => absurd hc2 hn)
    refine pw_L [(1, .inl v1)] [1] rfl ?_
    exact hX0 v1 (Option.some.inj h).symm
  · refine pw_icmp_ge 22 (px_at td_Ri_lowest 4 rfl) (by decide) (fun hn => absurd hn hc2) (fun _ => ?_)
    refine pw_iload_n 0 (px_at td_Ri_lowest 5 rfl) rfl rfl ?_
    refine pw_iload_n 1 (px_at td_Ri_lowest 6 rfl) rfl rfl ?_
    refine pw_ishr (px_at td_Ri_lowest 7 rfl) ?_
    refine pw_iconst (v := 1) (px_at td_Ri_lowest 8 rfl) (by decide) ?_
    refine pw_iand (px_at td_Ri_lowest 9 rfl) ?_
    rcases px_ite h with ⟨hc1, h⟩ | ⟨hc1, h⟩
    · refine pw_if_ne 22 (px_at td_Ri_lowest 10 rfl) (by decide) (fun hn => absurd hc1 hn) (fun _ => ?_)
      refine pw_iinc (q := 1) (v := (v1 + 1)) (L' := [(1, .inl (v1 + 1)), (0, .inl v0)]) (px_at td_Ri_lowest 11 rfl) rfl rfl (by decide) rfl ?_
      refine pw_goto 2 (px_at td_Ri_lowest 12 rfl) (by decide) ?_
      refine pw_L [(0, .inl v0), (1, .inl (v1 + 1))] [1, 0] rfl ?_
      exact hC (v1 + 1) (Option.some.inj h).symm
    · refine pw_if_ne 22 (px_at td_Ri_lowest 10 rfl) (by decide) (fun _ => ?_) (fun hn => absurd hn hc1)
      refine pw_L [(1, .inl v1)] [1] rfl ?_
      exact hX0 v1 (Option.some.inj h).symm
def Ri_lowest_L2 (σ : pxS) (v0 : Int32) : (Int32) → Option ((Int32) ⊕ (Int32)) := fun s => Ri_lowest_n2 σ v0 s
set_option maxRecDepth 100000 in
theorem Ri_lowest_L2_l {l : Launch} {ids : List pxI} {Rt : Option pxV → List pxI → pxG → pxS → Prop} {σ : pxS} {v0 : Int32} {n : Nat} {s : Int32} {e : Int32} (h : px_it (Ri_lowest_L2 σ v0) n s = some e) (hX0 : pw l (px_R 1) y_Ri_lowest c_Ri_lowest 2 (some .int) 22 [(1, .inl e)] [] ids cG σ 0 0 Rt) : pw l (px_R 1) y_Ri_lowest c_Ri_lowest 2 (some .int) 2 [(0, .inl v0), (1, .inl s)] [] ids cG σ 0 0 Rt := by
  refine px_it_rule (f := Ri_lowest_L2 σ v0) (C := fun s => pw l (px_R 1) y_Ri_lowest c_Ri_lowest 2 (some .int) 2 [(0, .inl v0), (1, .inl s)] [] ids cG σ 0 0 Rt) (X := fun e => (pw l (px_R 1) y_Ri_lowest c_Ri_lowest 2 (some .int) 22 [(1, .inl e)] [] ids cG σ 0 0 Rt)) ?_ ?_ n s e h hX0
  · intro s s1 hf hC
    exact Ri_lowest_n2_l hf (fun s2 hs => by cases hs; exact hC) (fun e he => by cases he)
  · intro s e hf hX
    exact Ri_lowest_n2_l hf (fun s2 hs => by cases hs) (fun e1 he => by cases he; exact hX)
def F_Ri_lowest (σ : pxS) (v0 : Int32) : Option (Int32) :=
  px_b1 (px_it (Ri_lowest_L2 σ v0) px_N 0) fun e3 =>
  some (e3)
set_option maxRecDepth 100000 in
theorem e_Ri_lowest {l : Launch} {ids : List pxI} {Rt : Option pxV → List pxI → pxG → pxS → Prop} {σ : pxS} {v0 : Int32} {res : Int32} (h : F_Ri_lowest σ v0 = some res) (hR : Rt (some (.inl res)) ids cG σ) : pw l (px_R 1) y_Ri_lowest c_Ri_lowest 2 (some .int) 0 [(0, .inl v0)] [] ids cG σ 0 0 Rt := by
  unfold F_Ri_lowest at h
  refine pw_iconst (v := 0) (px_at td_Ri_lowest 0 rfl) (by decide) ?_
  refine pw_istore_n (L' := [(1, .inl 0), (0, .inl v0)]) (px_at td_Ri_lowest 1 rfl) rfl (by decide) rfl ?_
  obtain ⟨e3, he3, h⟩ := px_b1_e h
  refine pw_L [(0, .inl v0), (1, .inl 0)] [1, 0] rfl ?_
  refine Ri_lowest_L2_l he3 ?_
  refine pw_iload_n 0 (px_at td_Ri_lowest 13 rfl) rfl rfl ?_
  obtain rfl := Option.some.inj h
  exact pw_iret (px_at td_Ri_lowest 14 rfl) rfl (Nat.le_refl 0) (Nat.le_refl 0) hR
theorem k_Ri_lowest {l : Launch} {ids : List pxI} {σ : pxS} {v0 : Int32} {res : Int32} (h : F_Ri_lowest σ v0 = some res) : pm l y_Ri_lowest c_Ri_lowest 2 (some .int) (px_R 1) [.inl v0] ids cG σ (px_r (some (.inl res)) ids cG σ) :=
  pm_ofF (by decide +kernel) (Nat.le_of_ble_eq_true rfl) (e_Ri_lowest h ⟨rfl, rfl, rfl, rfl⟩)
/-! Ri_reaching -/
def Ri_reaching_n56 (σ : pxS) (p0 : Int32) (v2 : Int32) (v3 : Int32) (v4 : Int32) (v5 : Int32) (v6 : Int32) : Option ((Int32 × Int32) ⊕ (Int32)) :=
  some (.inl (v5, (v6 + 1)))
set_option maxRecDepth 100000 in
theorem Ri_reaching_n56_l {l : Launch} {ids : List pxI} {Rt : Option pxV → List pxI → pxG → pxS → Prop} {σ : pxS} {p0 : Int32} {v2 : Int32} {v3 : Int32} {v4 : Int32} {v5 : Int32} {v6 : Int32} {o : (Int32 × Int32) ⊕ (Int32)} (h : Ri_reaching_n56 σ p0 v2 v3 v4 v5 v6 = some o) (hC : ∀ s, o = .inl s → pw l (px_R 1) y_Ri_reaching c_Ri_reaching 7 (some .int) 26 [(0, .inr (some (1, p0.toNatClampNeg, 0))), (2, .inl v2), (3, .inl v3), (4, .inl v4), (5, .inl s.1), (6, .inl s.2)] [] ids cG σ 0 0 Rt) (hX0 : ∀ e, o = .inr e → pw l (px_R 1) y_Ri_reaching c_Ri_reaching 7 (some .int) 62 [(0, .inr (some (1, p0.toNatClampNeg, 0))), (2, .inl v2), (4, .inl v4), (5, .inl e)] [] ids cG σ 0 0 Rt) : pw l (px_R 1) y_Ri_reaching c_Ri_reaching 7 (some .int) 56 [(0, .inr (some (1, p0.toNatClampNeg, 0))), (2, .inl v2), (3, .inl v3), (4, .inl v4), (5, .inl v5), (6, .inl v6)] [] ids cG σ 0 0 Rt := by
  unfold Ri_reaching_n56 at h
  refine pw_iinc (q := 5) (v := (v6 + 1)) (L' := [(6, .inl (v6 + 1)), (0, .inr (some (1, p0.toNatClampNeg, 0))), (2, .inl v2), (3, .inl v3), (4, .inl v4), (5, .inl v5)]) (px_at td_Ri_reaching 33 rfl) rfl rfl (by decide) rfl ?_
  refine pw_goto 26 (px_at td_Ri_reaching 34 rfl) (by decide) ?_
  refine pw_L [(0, .inr (some (1, p0.toNatClampNeg, 0))), (2, .inl v2), (3, .inl v3), (4, .inl v4), (5, .inl v5), (6, .inl (v6 + 1))] [1, 2, 3, 4, 5, 0] rfl ?_
  exact hC (v5, (v6 + 1)) (Option.some.inj h).symm
def Ri_reaching_n26 (σ : pxS) (p0 : Int32) (v2 : Int32) (v3 : Int32) (v4 : Int32) (v5 : Int32) (v6 : Int32) : Option ((Int32 × Int32) ⊕ (Int32)) :=
  (if (σ (1, p0.toNatClampNeg, 0) 0) ≤ v6 then some (.inr v5) else px_gd v6 12 ((if ((σ (8, p0.toNatClampNeg, 8) v6.toNatClampNeg) &&& v3) = 0 then Ri_reaching_n56 σ p0 v2 v3 v4 v5 v6 else Ri_reaching_n56 σ p0 v2 v3 v4 (v5 ||| (1 <<< (v6 &&& 31))) v6)))
set_option maxRecDepth 100000 in
theorem Ri_reaching_n26_l {l : Launch} {ids : List pxI} {Rt : Option pxV → List pxI → pxG → pxS → Prop} {σ : pxS} {p0 : Int32} {v2 : Int32} {v3 : Int32} {v4 : Int32} {v5 : Int32} {v6 : Int32} {o : (Int32 × Int32) ⊕ (Int32)} (h : Ri_reaching_n26 σ p0 v2 v3 v4 v5 v6 = some o) (hC : ∀ s, o = .inl s → pw l (px_R 1) y_Ri_reaching c_Ri_reaching 7 (some .int) 26 [(0, .inr (some (1, p0.toNatClampNeg, 0))), (2, .inl v2), (3, .inl v3), (4, .inl v4), (5, .inl s.1), (6, .inl s.2)] [] ids cG σ 0 0 Rt) (hX0 : ∀ e, o = .inr e → pw l (px_R 1) y_Ri_reaching c_Ri_reaching 7 (some .int) 62 [(0, .inr (some (1, p0.toNatClampNeg, 0))), (2, .inl v2), (4, .inl v4), (5, .inl e)] [] ids cG σ 0 0 Rt) : pw l (px_R 1) y_Ri_reaching c_Ri_reaching 7 (some .int) 26 [(0, .inr (some (1, p0.toNatClampNeg, 0))), (2, .inl v2), (3, .inl v3), (4, .inl v4), (5, .inl v5), (6, .inl v6)] [] ids cG σ 0 0 Rt := by
  unfold Ri_reaching_n26 at h
  refine pw_iload 5 (px_at td_Ri_reaching 16 rfl) rfl ?_
  refine pw_aload_n 0 (px_at td_Ri_reaching 17 rfl) rfl rfl ?_
  refine pw_getf (v := .inl (σ (1, p0.toNatClampNeg, 0) 0)) (px_at td_Ri_reaching 18 rfl) lf_Ri_9 rfl rfl rfl ?_
  rcases px_ite h with ⟨hc3, h⟩ | ⟨hc3, h⟩
  · refine pw_icmp_ge 62 (px_at td_Ri_reaching 19 rfl) (by decide) (fun _ => ?_) (fun hn => absurd hc3 hn)
    refine pw_L [(0, .inr (some (1, p0.toNatClampNeg, 0))), (2, .inl v2), (4, .inl v4), (5, .inl v5)] [0, 1, 3, 4] rfl ?_
    exact hX0 v5 (Option.some.inj h).symm
  · refine pw_icmp_ge 62 (px_at td_Ri_reaching 19 rfl) (by decide) (fun hn => absurd hn hc3) (fun _ => ?_)
    refine pw_aload_n 0 (px_at td_Ri_reaching 20 rfl) rfl rfl ?_
    refine pw_getf (v := .inr (some (8, p0.toNatClampNeg, 8))) (px_at td_Ri_reaching 21 rfl) lf_Ri_33 rfl rfl rfl ?_
    refine pw_iload 5 (px_at td_Ri_reaching 22 rfl) rfl ?_
    obtain ⟨hi1, h⟩ := px_gd_e h
    refine pw_ial (px_at td_Ri_reaching 23 rfl) rfl hi1 rfl ?_
    refine pw_iload_n 2 (px_at td_Ri_reaching 24 rfl) rfl rfl ?_
    refine pw_iand (px_at td_Ri_reaching 25 rfl) ?_
    rcases px_ite h with ⟨hc2, h⟩ | ⟨hc2, h⟩
    · refine pw_if_eq 56 (px_at td_Ri_reaching 26 rfl) (by decide) (fun _ => ?_) (fun hn => absurd hc2 hn)
      exact Ri_reaching_n56_l h hC hX0
    · refine pw_if_eq 56 (px_at td_Ri_reaching 26 rfl) (by decide) (fun hn => absurd hn hc2) (fun _ => ?_)
      refine pw_iload 4 (px_at td_Ri_reaching 27 rfl) rfl ?_
      refine pw_iconst (v := 1) (px_at td_Ri_reaching 28 rfl) (by decide) ?_
      refine pw_iload 5 (px_at td_Ri_reaching 29 rfl) rfl ?_
      refine pw_ishl (px_at td_Ri_reaching 30 rfl) ?_
      refine pw_ior (px_at td_Ri_reaching 31 rfl) ?_
      refine pw_istore (L' := [(5, .inl (v5 ||| (1 <<< (v6 &&& 31)))), (0, .inr (some (1, p0.toNatClampNeg, 0))), (2, .inl v2), (3, .inl v3), (4, .inl v4), (6, .inl v6)]) (px_at td_Ri_reaching 32 rfl) (by decide) rfl ?_
      refine pw_L [(0, .inr (some (1, p0.toNatClampNeg, 0))), (2, .inl v2), (3, .inl v3), (4, .inl v4), (5, .inl (v5 ||| (1 <<< (v6 &&& 31)))), (6, .inl v6)] [1, 2, 3, 4, 0, 5] rfl ?_
      exact Ri_reaching_n56_l h hC hX0
def Ri_reaching_L26 (σ : pxS) (p0 : Int32) (v2 : Int32) (v3 : Int32) (v4 : Int32) : (Int32 × Int32) → Option ((Int32 × Int32) ⊕ (Int32)) := fun s => Ri_reaching_n26 σ p0 v2 v3 v4 s.1 s.2
set_option maxRecDepth 100000 in
theorem Ri_reaching_L26_l {l : Launch} {ids : List pxI} {Rt : Option pxV → List pxI → pxG → pxS → Prop} {σ : pxS} {p0 : Int32} {v2 : Int32} {v3 : Int32} {v4 : Int32} {n : Nat} {s : Int32 × Int32} {e : Int32} (h : px_it (Ri_reaching_L26 σ p0 v2 v3 v4) n s = some e) (hX0 : pw l (px_R 1) y_Ri_reaching c_Ri_reaching 7 (some .int) 62 [(0, .inr (some (1, p0.toNatClampNeg, 0))), (2, .inl v2), (4, .inl v4), (5, .inl e)] [] ids cG σ 0 0 Rt) : pw l (px_R 1) y_Ri_reaching c_Ri_reaching 7 (some .int) 26 [(0, .inr (some (1, p0.toNatClampNeg, 0))), (2, .inl v2), (3, .inl v3), (4, .inl v4), (5, .inl s.1), (6, .inl s.2)] [] ids cG σ 0 0 Rt := by
  refine px_it_rule (f := Ri_reaching_L26 σ p0 v2 v3 v4) (C := fun s => pw l (px_R 1) y_Ri_reaching c_Ri_reaching 7 (some .int) 26 [(0, .inr (some (1, p0.toNatClampNeg, 0))), (2, .inl v2), (3, .inl v3), (4, .inl v4), (5, .inl s.1), (6, .inl s.2)] [] ids cG σ 0 0 Rt) (X := fun e => (pw l (px_R 1) y_Ri_reaching c_Ri_reaching 7 (some .int) 62 [(0, .inr (some (1, p0.toNatClampNeg, 0))), (2, .inl v2), (4, .inl v4), (5, .inl e)] [] ids cG σ 0 0 Rt)) ?_ ?_ n s e h hX0
  · intro s s1 hf hC
    exact Ri_reaching_n26_l hf (fun s2 hs => by cases hs; exact hC) (fun e he => by cases he)
  · intro s e hf hX
    exact Ri_reaching_n26_l hf (fun s2 hs => by cases hs) (fun e1 he => by cases he; exact hX)
def Ri_reaching_n7 (σ : pxS) (p0 : Int32) (v2 : Int32) (v3 : Int32) (v4 : Int32) : Option ((Int32 × Int32) ⊕ (Int32)) :=
  (if v2 ≤ v4 then some (.inr v3) else (if 12 ≤ v4 then some (.inr v3) else px_b1 (px_it (Ri_reaching_L26 σ p0 v2 v3 v4) px_N (v3, 0)) fun e4 =>
  some (.inl (e4, (v4 + 1)))))
set_option maxRecDepth 100000 in
theorem Ri_reaching_n7_l {l : Launch} {ids : List pxI} {Rt : Option pxV → List pxI → pxG → pxS → Prop} {σ : pxS} {p0 : Int32} {v2 : Int32} {v3 : Int32} {v4 : Int32} {o : (Int32 × Int32) ⊕ (Int32)} (h : Ri_reaching_n7 σ p0 v2 v3 v4 = some o) (hC : ∀ s, o = .inl s → pw l (px_R 1) y_Ri_reaching c_Ri_reaching 7 (some .int) 7 [(0, .inr (some (1, p0.toNatClampNeg, 0))), (2, .inl v2), (3, .inl s.1), (4, .inl s.2)] [] ids cG σ 0 0 Rt) (hX0 : ∀ e, o = .inr e → pw l (px_R 1) y_Ri_reaching c_Ri_reaching 7 (some .int) 71 [(3, .inl e)] [] ids cG σ 0 0 Rt) : pw l (px_R 1) y_Ri_reaching c_Ri_reaching 7 (some .int) 7 [(0, .inr (some (1, p0.toNatClampNeg, 0))), (2, .inl v2), (3, .inl v3), (4, .inl v4)] [] ids cG σ 0 0 Rt := by
  unfold Ri_reaching_n7 at h
  refine pw_iload 3 (px_at td_Ri_reaching 6 rfl) rfl ?_
  refine pw_iload_n 1 (px_at td_Ri_reaching 7 rfl) rfl rfl ?_
  rcases px_ite h with ⟨hc6, h⟩ | ⟨hc6, h⟩
  · refine pw_icmp_ge 71 (px_at td_Ri_reaching 8 rfl) (by decide) (fun _ => ?_) (fun hn => absurd hc6 hn)
    refine pw_L [(3, .inl v3)] [2] rfl ?_
    exact hX0 v3 (Option.some.inj h).symm
  · refine pw_icmp_ge 71 (px_at td_Ri_reaching 8 rfl) (by decide) (fun hn => absurd hn hc6) (fun _ => ?_)
    refine pw_iload 3 (px_at td_Ri_reaching 9 rfl) rfl ?_
    refine pw_bipush (v := 12) (px_at td_Ri_reaching 10 rfl) (by decide) ?_
    rcases px_ite h with ⟨hc5, h⟩ | ⟨hc5, h⟩
    · refine pw_icmp_ge 71 (px_at td_Ri_reaching 11 rfl) (by decide) (fun _ => ?_) (fun hn => absurd hc5 hn)
      refine pw_L [(3, .inl v3)] [2] rfl ?_
      exact hX0 v3 (Option.some.inj h).symm
    · refine pw_icmp_ge 71 (px_at td_Ri_reaching 11 rfl) (by decide) (fun hn => absurd hn hc5) (fun _ => ?_)
      refine pw_iload_n 2 (px_at td_Ri_reaching 12 rfl) rfl rfl ?_
      refine pw_istore (L' := [(5, .inl v3), (0, .inr (some (1, p0.toNatClampNeg, 0))), (2, .inl v2), (3, .inl v3), (4, .inl v4)]) (px_at td_Ri_reaching 13 rfl) (by decide) rfl ?_
      refine pw_iconst (v := 0) (px_at td_Ri_reaching 14 rfl) (by decide) ?_
      refine pw_istore (L' := [(6, .inl 0), (5, .inl v3), (0, .inr (some (1, p0.toNatClampNeg, 0))), (2, .inl v2), (3, .inl v3), (4, .inl v4)]) (px_at td_Ri_reaching 15 rfl) (by decide) rfl ?_
      obtain ⟨e4, he4, h⟩ := px_b1_e h
      refine pw_L [(0, .inr (some (1, p0.toNatClampNeg, 0))), (2, .inl v2), (3, .inl v3), (4, .inl v4), (5, .inl v3), (6, .inl 0)] [2, 3, 4, 5, 1, 0] rfl ?_
      refine Ri_reaching_L26_l he4 ?_
      refine pw_iload 3 (px_at td_Ri_reaching 35 rfl) rfl ?_
      refine pw_istore_n (L' := [(3, .inl e4), (0, .inr (some (1, p0.toNatClampNeg, 0))), (2, .inl v2), (4, .inl v4), (5, .inl e4)]) (px_at td_Ri_reaching 36 rfl) rfl (by decide) rfl ?_
      refine pw_iinc (q := 3) (v := (v4 + 1)) (L' := [(4, .inl (v4 + 1)), (3, .inl e4), (0, .inr (some (1, p0.toNatClampNeg, 0))), (2, .inl v2), (5, .inl e4)]) (px_at td_Ri_reaching 37 rfl) rfl rfl (by decide) rfl ?_
      refine pw_goto 7 (px_at td_Ri_reaching 38 rfl) (by decide) ?_
      refine pw_L [(0, .inr (some (1, p0.toNatClampNeg, 0))), (2, .inl v2), (3, .inl e4), (4, .inl (v4 + 1))] [2, 3, 1, 0] rfl ?_
      exact hC (e4, (v4 + 1)) (Option.some.inj h).symm
def Ri_reaching_L7 (σ : pxS) (p0 : Int32) (v2 : Int32) : (Int32 × Int32) → Option ((Int32 × Int32) ⊕ (Int32)) := fun s => Ri_reaching_n7 σ p0 v2 s.1 s.2
set_option maxRecDepth 100000 in
theorem Ri_reaching_L7_l {l : Launch} {ids : List pxI} {Rt : Option pxV → List pxI → pxG → pxS → Prop} {σ : pxS} {p0 : Int32} {v2 : Int32} {n : Nat} {s : Int32 × Int32} {e : Int32} (h : px_it (Ri_reaching_L7 σ p0 v2) n s = some e) (hX0 : pw l (px_R 1) y_Ri_reaching c_Ri_reaching 7 (some .int) 71 [(3, .inl e)] [] ids cG σ 0 0 Rt) : pw l (px_R 1) y_Ri_reaching c_Ri_reaching 7 (some .int) 7 [(0, .inr (some (1, p0.toNatClampNeg, 0))), (2, .inl v2), (3, .inl s.1), (4, .inl s.2)] [] ids cG σ 0 0 Rt := by
  refine px_it_rule (f := Ri_reaching_L7 σ p0 v2) (C := fun s => pw l (px_R 1) y_Ri_reaching c_Ri_reaching 7 (some .int) 7 [(0, .inr (some (1, p0.toNatClampNeg, 0))), (2, .inl v2), (3, .inl s.1), (4, .inl s.2)] [] ids cG σ 0 0 Rt) (X := fun e => (pw l (px_R 1) y_Ri_reaching c_Ri_reaching 7 (some .int) 71 [(3, .inl e)] [] ids cG σ 0 0 Rt)) ?_ ?_ n s e h hX0
  · intro s s1 hf hC
    exact Ri_reaching_n7_l hf (fun s2 hs => by cases hs; exact hC) (fun e he => by cases he)
  · intro s e hf hX
    exact Ri_reaching_n7_l hf (fun s2 hs => by cases hs) (fun e1 he => by cases he; exact hX)
def F_Ri_reaching (σ : pxS) (p0 : Int32) (v1 : Int32) (v2 : Int32) : Option (Int32) :=
  px_b1 (px_it (Ri_reaching_L7 σ p0 v2) px_N ((1 <<< (v1 &&& 31)), 0)) fun e7 =>
  some (e7)
set_option maxRecDepth 100000 in
theorem e_Ri_reaching {l : Launch} {ids : List pxI} {Rt : Option pxV → List pxI → pxG → pxS → Prop} {σ : pxS} {p0 : Int32} {v1 : Int32} {v2 : Int32} {res : Int32} (h : F_Ri_reaching σ p0 v1 v2 = some res) (hR : Rt (some (.inl res)) ids cG σ) : pw l (px_R 1) y_Ri_reaching c_Ri_reaching 7 (some .int) 0 [(0, .inr (some (1, p0.toNatClampNeg, 0))), (1, .inl v1), (2, .inl v2)] [] ids cG σ 0 0 Rt := by
  unfold F_Ri_reaching at h
  refine pw_iconst (v := 1) (px_at td_Ri_reaching 0 rfl) (by decide) ?_
  refine pw_iload_n 1 (px_at td_Ri_reaching 1 rfl) rfl rfl ?_
  refine pw_ishl (px_at td_Ri_reaching 2 rfl) ?_
  refine pw_istore_n (L' := [(3, .inl (1 <<< (v1 &&& 31))), (0, .inr (some (1, p0.toNatClampNeg, 0))), (1, .inl v1), (2, .inl v2)]) (px_at td_Ri_reaching 3 rfl) rfl (by decide) rfl ?_
  refine pw_iconst (v := 0) (px_at td_Ri_reaching 4 rfl) (by decide) ?_
  refine pw_istore (L' := [(4, .inl 0), (3, .inl (1 <<< (v1 &&& 31))), (0, .inr (some (1, p0.toNatClampNeg, 0))), (1, .inl v1), (2, .inl v2)]) (px_at td_Ri_reaching 5 rfl) (by decide) rfl ?_
  obtain ⟨e7, he7, h⟩ := px_b1_e h
  refine pw_L [(0, .inr (some (1, p0.toNatClampNeg, 0))), (2, .inl v2), (3, .inl (1 <<< (v1 &&& 31))), (4, .inl 0)] [2, 4, 1, 0] rfl ?_
  refine Ri_reaching_L7_l he7 ?_
  refine pw_iload_n 0 (px_at td_Ri_reaching 39 rfl) rfl rfl ?_
  obtain rfl := Option.some.inj h
  exact pw_iret (px_at td_Ri_reaching 40 rfl) rfl (Nat.le_refl 0) (Nat.le_refl 0) hR
theorem k_Ri_reaching {l : Launch} {ids : List pxI} {σ : pxS} {p0 : Int32} {v1 : Int32} {v2 : Int32} {res : Int32} (h : F_Ri_reaching σ p0 v1 v2 = some res) : pm l y_Ri_reaching c_Ri_reaching 7 (some .int) (px_R 1) [.inr (some (1, p0.toNatClampNeg, 0)), .inl v1, .inl v2] ids cG σ (px_r (some (.inl res)) ids cG σ) :=
  pm_ofF (by decide +kernel) (Nat.le_of_ble_eq_true rfl) (e_Ri_reaching h ⟨rfl, rfl, rfl, rfl⟩)
/-! Ri_linksBack -/
def Ri_linksBack_n2 (σ : pxS) (p0 : Int32) (v1 : Int32) (v2 : Int32) : Option ((Int32) ⊕ (Nat × Int32)) :=
  (if (σ (1, p0.toNatClampNeg, 0) 0) < v2 then some (.inr (1, 0)) else px_gd v1 12 (px_b1 (F_Ri_reaching σ p0 v1 (v2 - 1)) fun r2 =>
  (if ((σ (8, p0.toNatClampNeg, 8) v1.toNatClampNeg) &&& r2) = 0 then some (.inl (v2 + 1)) else some (.inr (0, v2)))))
set_option maxRecDepth 100000 in
theorem Ri_linksBack_n2_l {l : Launch} {ids : List pxI} {Rt : Option pxV → List pxI → pxG → pxS → Prop} {σ : pxS} {p0 : Int32} {v1 : Int32} {v2 : Int32} {o : (Int32) ⊕ (Nat × Int32)} (h : Ri_linksBack_n2 σ p0 v1 v2 = some o) (hC : ∀ s, o = .inl s → pw l (px_R 2) y_Ri_linksBack c_Ri_linksBack 3 (some .int) 2 [(0, .inr (some (1, p0.toNatClampNeg, 0))), (1, .inl v1), (2, .inl s)] [] ids cG σ 0 0 Rt) (hX0 : ∀ e, o = .inr e → e.1 = 0 → pw l (px_R 2) y_Ri_linksBack c_Ri_linksBack 3 (some .int) 28 [(2, .inl e.2)] [] ids cG σ 0 0 Rt) (hX1 : ∀ e, o = .inr e → e.1 = 1 → pw l (px_R 2) y_Ri_linksBack c_Ri_linksBack 3 (some .int) 36 [] [] ids cG σ 0 0 Rt) : pw l (px_R 2) y_Ri_linksBack c_Ri_linksBack 3 (some .int) 2 [(0, .inr (some (1, p0.toNatClampNeg, 0))), (1, .inl v1), (2, .inl v2)] [] ids cG σ 0 0 Rt := by
  unfold Ri_linksBack_n2 at h
  refine pw_iload_n 2 (px_at td_Ri_linksBack 2 rfl) rfl rfl ?_
  refine pw_aload_n 0 (px_at td_Ri_linksBack 3 rfl) rfl rfl ?_
  refine pw_getf (v := .inl (σ (1, p0.toNatClampNeg, 0) 0)) (px_at td_Ri_linksBack 4 rfl) lf_Ri_9 rfl rfl rfl ?_
  rcases px_ite h with ⟨hc4, h⟩ | ⟨hc4, h⟩
  · refine pw_icmp_gt 36 (px_at td_Ri_linksBack 5 rfl) (by decide) (fun _ => ?_) (fun hn => absurd hc4 hn)
    refine pw_L [] [] rfl ?_
    exact hX1 (1, 0) (Option.some.inj h).symm rfl
  · refine pw_icmp_gt 36 (px_at td_Ri_linksBack 5 rfl) (by decide) (fun hn => absurd hn hc4) (fun _ => ?_)
    refine pw_aload_n 0 (px_at td_Ri_linksBack 6 rfl) rfl rfl ?_
    refine pw_getf (v := .inr (some (8, p0.toNatClampNeg, 8))) (px_at td_Ri_linksBack 7 rfl) lf_Ri_33 rfl rfl rfl ?_
    refine pw_iload_n 1 (px_at td_Ri_linksBack 8 rfl) rfl rfl ?_
    obtain ⟨hi1, h⟩ := px_gd_e h
    refine pw_ial (px_at td_Ri_linksBack 9 rfl) rfl hi1 rfl ?_
    refine pw_aload_n 0 (px_at td_Ri_linksBack 10 rfl) rfl rfl ?_
    refine pw_iload_n 1 (px_at td_Ri_linksBack 11 rfl) rfl rfl ?_
    refine pw_iload_n 2 (px_at td_Ri_linksBack 12 rfl) rfl rfl ?_
    refine pw_iconst (v := 1) (px_at td_Ri_linksBack 13 rfl) (by decide) ?_
    refine pw_isub (px_at td_Ri_linksBack 14 rfl) ?_
    obtain ⟨r2, hk2, h⟩ := px_b1_e h
    refine pw_cS1 [.inr (some (1, p0.toNatClampNeg, 0)), .inl v1, .inl (v2 - 1)] [.inl (σ (8, p0.toNatClampNeg, 8) v1.toNatClampNeg)] (px_at td_Ri_linksBack 15 rfl) lS_Ri_36 rfl rfl (Nat.le_of_ble_eq_true rfl) (by decide) (k_Ri_reaching hk2) ?_
    refine pw_iand (px_at td_Ri_linksBack 16 rfl) ?_
    rcases px_ite h with ⟨hc3, h⟩ | ⟨hc3, h⟩
    · refine pw_if_eq 30 (px_at td_Ri_linksBack 17 rfl) (by decide) (fun _ => ?_) (fun hn => absurd hc3 hn)
      refine pw_iinc (q := 2) (v := (v2 + 1)) (L' := [(2, .inl (v2 + 1)), (0, .inr (some (1, p0.toNatClampNeg, 0))), (1, .inl v1)]) (px_at td_Ri_linksBack 20 rfl) rfl rfl (by decide) rfl ?_
      refine pw_goto 2 (px_at td_Ri_linksBack 21 rfl) (by decide) ?_
      refine pw_L [(0, .inr (some (1, p0.toNatClampNeg, 0))), (1, .inl v1), (2, .inl (v2 + 1))] [1, 2, 0] rfl ?_
      exact hC (v2 + 1) (Option.some.inj h).symm
    · refine pw_if_eq 30 (px_at td_Ri_linksBack 17 rfl) (by decide) (fun hn => absurd hn hc3) (fun _ => ?_)
      refine pw_L [(2, .inl v2)] [2] rfl ?_
      exact hX0 (0, v2) (Option.some.inj h).symm rfl
def Ri_linksBack_L2 (σ : pxS) (p0 : Int32) (v1 : Int32) : (Int32) → Option ((Int32) ⊕ (Nat × Int32)) := fun s => Ri_linksBack_n2 σ p0 v1 s
set_option maxRecDepth 100000 in
theorem Ri_linksBack_L2_l {l : Launch} {ids : List pxI} {Rt : Option pxV → List pxI → pxG → pxS → Prop} {σ : pxS} {p0 : Int32} {v1 : Int32} {n : Nat} {s : Int32} {e : Nat × Int32} (h : px_it (Ri_linksBack_L2 σ p0 v1) n s = some e) (hX0 : e.1 = 0 → pw l (px_R 2) y_Ri_linksBack c_Ri_linksBack 3 (some .int) 28 [(2, .inl e.2)] [] ids cG σ 0 0 Rt) (hX1 : e.1 = 1 → pw l (px_R 2) y_Ri_linksBack c_Ri_linksBack 3 (some .int) 36 [] [] ids cG σ 0 0 Rt) : pw l (px_R 2) y_Ri_linksBack c_Ri_linksBack 3 (some .int) 2 [(0, .inr (some (1, p0.toNatClampNeg, 0))), (1, .inl v1), (2, .inl s)] [] ids cG σ 0 0 Rt := by
  refine px_it_rule (f := Ri_linksBack_L2 σ p0 v1) (C := fun s => pw l (px_R 2) y_Ri_linksBack c_Ri_linksBack 3 (some .int) 2 [(0, .inr (some (1, p0.toNatClampNeg, 0))), (1, .inl v1), (2, .inl s)] [] ids cG σ 0 0 Rt) (X := fun e => (e.1 = 0 → pw l (px_R 2) y_Ri_linksBack c_Ri_linksBack 3 (some .int) 28 [(2, .inl e.2)] [] ids cG σ 0 0 Rt) ∧ (e.1 = 1 → pw l (px_R 2) y_Ri_linksBack c_Ri_linksBack 3 (some .int) 36 [] [] ids cG σ 0 0 Rt)) ?_ ?_ n s e h ⟨hX0, hX1⟩
  · intro s s1 hf hC
    exact Ri_linksBack_n2_l hf (fun s2 hs => by cases hs; exact hC) (fun e he ht => by cases he) (fun e he ht => by cases he)
  · intro s e hf hX
    exact Ri_linksBack_n2_l hf (fun s2 hs => by cases hs) (fun e1 he ht => by cases he; exact hX.1 ht) (fun e1 he ht => by cases he; exact hX.2 ht)
def F_Ri_linksBack (σ : pxS) (p0 : Int32) (v1 : Int32) : Option (Int32) :=
  px_b1 (px_it (Ri_linksBack_L2 σ p0 v1) px_N 1) fun e5 =>
  (if e5.1 = 0 then some (e5.2) else some (0))
set_option maxRecDepth 100000 in
theorem e_Ri_linksBack {l : Launch} {ids : List pxI} {Rt : Option pxV → List pxI → pxG → pxS → Prop} {σ : pxS} {p0 : Int32} {v1 : Int32} {res : Int32} (h : F_Ri_linksBack σ p0 v1 = some res) (hR : Rt (some (.inl res)) ids cG σ) : pw l (px_R 2) y_Ri_linksBack c_Ri_linksBack 3 (some .int) 0 [(0, .inr (some (1, p0.toNatClampNeg, 0))), (1, .inl v1)] [] ids cG σ 0 0 Rt := by
  unfold F_Ri_linksBack at h
  refine pw_iconst (v := 1) (px_at td_Ri_linksBack 0 rfl) (by decide) ?_
  refine pw_istore_n (L' := [(2, .inl 1), (0, .inr (some (1, p0.toNatClampNeg, 0))), (1, .inl v1)]) (px_at td_Ri_linksBack 1 rfl) rfl (by decide) rfl ?_
  obtain ⟨e5, he5, h⟩ := px_b1_e h
  refine pw_L [(0, .inr (some (1, p0.toNatClampNeg, 0))), (1, .inl v1), (2, .inl 1)] [1, 2, 0] rfl ?_
  refine Ri_linksBack_L2_l he5 (fun ht0 => ?_) (fun ht1 => ?_)
  · rw [if_pos ht0] at h
    refine pw_iload_n 0 (px_at td_Ri_linksBack 18 rfl) rfl rfl ?_
    obtain rfl := Option.some.inj h
    exact pw_iret (px_at td_Ri_linksBack 19 rfl) rfl (Nat.le_refl 0) (Nat.le_refl 0) hR
  · rw [if_neg (by rw [ht1]; decide)] at h
    refine pw_iconst (v := 0) (px_at td_Ri_linksBack 22 rfl) (by decide) ?_
    obtain rfl := Option.some.inj h
    exact pw_iret (px_at td_Ri_linksBack 23 rfl) rfl (Nat.le_refl 0) (Nat.le_refl 0) hR
theorem k_Ri_linksBack {l : Launch} {ids : List pxI} {σ : pxS} {p0 : Int32} {v1 : Int32} {res : Int32} (h : F_Ri_linksBack σ p0 v1 = some res) : pm l y_Ri_linksBack c_Ri_linksBack 3 (some .int) (px_R 2) [.inr (some (1, p0.toNatClampNeg, 0)), .inl v1] ids cG σ (px_r (some (.inl res)) ids cG σ) :=
  pm_ofF (by decide +kernel) (Nat.le_of_ble_eq_true rfl) (e_Ri_linksBack h ⟨rfl, rfl, rfl, rfl⟩)
/-! Ri_railAt -/
def Ri_railAt_n30 (σ : pxS) (p0 : Int32) (v1 : Int32) (v3 : Int32) (v4 : Int32) (v5 : Int32) (v6 : Int32) : Option ((Int32 × Int32 × Int32) ⊕ (Nat × Int32)) :=
  (if v1 ≤ v6 then some (.inr (1, v5)) else (if 12 ≤ v6 then some (.inr (1, v5)) else px_gd v5 12 (px_b1 (F_Ri_reaching σ p0 v3 (v4 + (-1))) fun r5 =>
  (if (v4 + (-1)) ≤ 0 then some (.inr (0, 0)) else (if ((σ (8, p0.toNatClampNeg, 8) v5.toNatClampNeg) &&& r5) = 0 then some (.inr (0, 0)) else px_b1 (F_Ri_lowest σ ((σ (8, p0.toNatClampNeg, 8) v5.toNatClampNeg) &&& r5)) fun r6 =>
  some (.inl ((v4 + (-1)), r6, (v6 + 1))))))))
set_option maxRecDepth 100000 in
theorem Ri_railAt_n30_l {l : Launch} {ids : List pxI} {Rt : Option pxV → List pxI → pxG → pxS → Prop} {σ : pxS} {p0 : Int32} {v1 : Int32} {v3 : Int32} {v4 : Int32} {v5 : Int32} {v6 : Int32} {o : (Int32 × Int32 × Int32) ⊕ (Nat × Int32)} (h : Ri_railAt_n30 σ p0 v1 v3 v4 v5 v6 = some o) (hC : ∀ s, o = .inl s → pw l (px_R 3) y_Ri_railAt c_Ri_railAt 8 (some .int) 30 [(0, .inr (some (1, p0.toNatClampNeg, 0))), (1, .inl v1), (3, .inl v3), (4, .inl s.1), (5, .inl s.2.1), (6, .inl s.2.2)] [] ids cG σ 0 0 Rt) (hX0 : ∀ e, o = .inr e → e.1 = 0 → pw l (px_R 3) y_Ri_railAt c_Ri_railAt 8 (some .int) 73 [] [] ids cG σ 0 0 Rt) (hX1 : ∀ e, o = .inr e → e.1 = 1 → pw l (px_R 3) y_Ri_railAt c_Ri_railAt 8 (some .int) 89 [(5, .inl e.2)] [] ids cG σ 0 0 Rt) : pw l (px_R 3) y_Ri_railAt c_Ri_railAt 8 (some .int) 30 [(0, .inr (some (1, p0.toNatClampNeg, 0))), (1, .inl v1), (3, .inl v3), (4, .inl v4), (5, .inl v5), (6, .inl v6)] [] ids cG σ 0 0 Rt := by
  unfold Ri_railAt_n30 at h
  refine pw_iload 5 (px_at td_Ri_railAt 18 rfl) rfl ?_
  refine pw_iload_n 1 (px_at td_Ri_railAt 19 rfl) rfl rfl ?_
  rcases px_ite h with ⟨hc10, h⟩ | ⟨hc10, h⟩
  · refine pw_icmp_ge 89 (px_at td_Ri_railAt 20 rfl) (by decide) (fun _ => ?_) (fun hn => absurd hc10 hn)
    refine pw_L [(5, .inl v5)] [4] rfl ?_
    exact hX1 (1, v5) (Option.some.inj h).symm rfl
  · refine pw_icmp_ge 89 (px_at td_Ri_railAt 20 rfl) (by decide) (fun hn => absurd hn hc10) (fun _ => ?_)
    refine pw_iload 5 (px_at td_Ri_railAt 21 rfl) rfl ?_
    refine pw_bipush (v := 12) (px_at td_Ri_railAt 22 rfl) (by decide) ?_
    rcases px_ite h with ⟨hc9, h⟩ | ⟨hc9, h⟩
    · refine pw_icmp_ge 89 (px_at td_Ri_railAt 23 rfl) (by decide) (fun _ => ?_) (fun hn => absurd hc9 hn)
      refine pw_L [(5, .inl v5)] [4] rfl ?_
      exact hX1 (1, v5) (Option.some.inj h).symm rfl
    · refine pw_icmp_ge 89 (px_at td_Ri_railAt 23 rfl) (by decide) (fun hn => absurd hn hc9) (fun _ => ?_)
      refine pw_iinc (q := 3) (v := (v4 + (-1))) (L' := [(4, .inl (v4 + (-1))), (0, .inr (some (1, p0.toNatClampNeg, 0))), (1, .inl v1), (3, .inl v3), (5, .inl v5), (6, .inl v6)]) (px_at td_Ri_railAt 24 rfl) rfl rfl (by decide) rfl ?_
      refine pw_aload_n 1 (px_at td_Ri_railAt 25 rfl) rfl rfl ?_
      refine pw_getf (v := .inr (some (8, p0.toNatClampNeg, 8))) (px_at td_Ri_railAt 26 rfl) lf_Ri_33 rfl rfl rfl ?_
      refine pw_iload 4 (px_at td_Ri_railAt 27 rfl) rfl ?_
      obtain ⟨hi4, h⟩ := px_gd_e h
      refine pw_ial (px_at td_Ri_railAt 28 rfl) rfl hi4 rfl ?_
      refine pw_aload_n 1 (px_at td_Ri_railAt 29 rfl) rfl rfl ?_
      refine pw_iload_n 3 (px_at td_Ri_railAt 30 rfl) rfl rfl ?_
      refine pw_iload 0 (px_at td_Ri_railAt 31 rfl) rfl ?_
      obtain ⟨r5, hk5, h⟩ := px_b1_e h
      refine pw_cS1 [.inr (some (1, p0.toNatClampNeg, 0)), .inl v3, .inl (v4 + (-1))] [.inl (σ (8, p0.toNatClampNeg, 8) v5.toNatClampNeg)] (px_at td_Ri_railAt 32 rfl) lS_Ri_36 rfl rfl (Nat.le_of_ble_eq_true rfl) (by decide) (k_Ri_reaching hk5) ?_
      refine pw_iand (px_at td_Ri_railAt 33 rfl) ?_
      refine pw_istore (L' := [(7, .inl ((σ (8, p0.toNatClampNeg, 8) v5.toNatClampNeg) &&& r5)), (4, .inl (v4 + (-1))), (0, .inr (some (1, p0.toNatClampNeg, 0))), (1, .inl v1), (3, .inl v3), (5, .inl v5), (6, .inl v6)]) (px_at td_Ri_railAt 34 rfl) (by decide) rfl ?_
      refine pw_iload 1 (px_at td_Ri_railAt 35 rfl) rfl ?_
      rcases px_ite h with ⟨hc8, h⟩ | ⟨hc8, h⟩
      · refine pw_if_le 73 (px_at td_Ri_railAt 36 rfl) (by decide) (fun _ => ?_) (fun hn => absurd hc8 hn)
        refine pw_L [] [] rfl ?_
        exact hX0 (0, 0) (Option.some.inj h).symm rfl
      · refine pw_if_le 73 (px_at td_Ri_railAt 36 rfl) (by decide) (fun hn => absurd hn hc8) (fun _ => ?_)
        refine pw_iload 0 (px_at td_Ri_railAt 37 rfl) rfl ?_
        rcases px_ite h with ⟨hc7, h⟩ | ⟨hc7, h⟩
        · refine pw_if_ne 76 (px_at td_Ri_railAt 38 rfl) (by decide) (fun hn => absurd hc7 hn) (fun _ => ?_)
          refine pw_L [] [] rfl ?_
          exact hX0 (0, 0) (Option.some.inj h).symm rfl
        · refine pw_if_ne 76 (px_at td_Ri_railAt 38 rfl) (by decide) (fun _ => ?_) (fun hn => absurd hn hc7)
          refine pw_iload 0 (px_at td_Ri_railAt 41 rfl) rfl ?_
          obtain ⟨r6, hk6, h⟩ := px_b1_e h
          refine pw_cS1 [.inl ((σ (8, p0.toNatClampNeg, 8) v5.toNatClampNeg) &&& r5)] [] (px_at td_Ri_railAt 42 rfl) lS_Ri_25 rfl rfl (Nat.le_of_ble_eq_true rfl) (by decide) (k_Ri_lowest hk6) ?_
          refine pw_istore (L' := [(5, .inl r6), (7, .inl ((σ (8, p0.toNatClampNeg, 8) v5.toNatClampNeg) &&& r5)), (4, .inl (v4 + (-1))), (0, .inr (some (1, p0.toNatClampNeg, 0))), (1, .inl v1), (3, .inl v3), (6, .inl v6)]) (px_at td_Ri_railAt 43 rfl) (by decide) rfl ?_
          refine pw_iinc (q := 6) (v := (v6 + 1)) (L' := [(6, .inl (v6 + 1)), (5, .inl r6), (7, .inl ((σ (8, p0.toNatClampNeg, 8) v5.toNatClampNeg) &&& r5)), (4, .inl (v4 + (-1))), (0, .inr (some (1, p0.toNatClampNeg, 0))), (1, .inl v1), (3, .inl v3)]) (px_at td_Ri_railAt 44 rfl) rfl rfl (by decide) rfl ?_
          refine pw_goto 30 (px_at td_Ri_railAt 45 rfl) (by decide) ?_
          refine pw_L [(0, .inr (some (1, p0.toNatClampNeg, 0))), (1, .inl v1), (3, .inl v3), (4, .inl (v4 + (-1))), (5, .inl r6), (6, .inl (v6 + 1))] [4, 5, 6, 3, 1, 0] rfl ?_
          exact hC ((v4 + (-1)), r6, (v6 + 1)) (Option.some.inj h).symm
def Ri_railAt_L30 (σ : pxS) (p0 : Int32) (v1 : Int32) (v3 : Int32) : (Int32 × Int32 × Int32) → Option ((Int32 × Int32 × Int32) ⊕ (Nat × Int32)) := fun s => Ri_railAt_n30 σ p0 v1 v3 s.1 s.2.1 s.2.2
set_option maxRecDepth 100000 in
theorem Ri_railAt_L30_l {l : Launch} {ids : List pxI} {Rt : Option pxV → List pxI → pxG → pxS → Prop} {σ : pxS} {p0 : Int32} {v1 : Int32} {v3 : Int32} {n : Nat} {s : Int32 × Int32 × Int32} {e : Nat × Int32} (h : px_it (Ri_railAt_L30 σ p0 v1 v3) n s = some e) (hX0 : e.1 = 0 → pw l (px_R 3) y_Ri_railAt c_Ri_railAt 8 (some .int) 73 [] [] ids cG σ 0 0 Rt) (hX1 : e.1 = 1 → pw l (px_R 3) y_Ri_railAt c_Ri_railAt 8 (some .int) 89 [(5, .inl e.2)] [] ids cG σ 0 0 Rt) : pw l (px_R 3) y_Ri_railAt c_Ri_railAt 8 (some .int) 30 [(0, .inr (some (1, p0.toNatClampNeg, 0))), (1, .inl v1), (3, .inl v3), (4, .inl s.1), (5, .inl s.2.1), (6, .inl s.2.2)] [] ids cG σ 0 0 Rt := by
  refine px_it_rule (f := Ri_railAt_L30 σ p0 v1 v3) (C := fun s => pw l (px_R 3) y_Ri_railAt c_Ri_railAt 8 (some .int) 30 [(0, .inr (some (1, p0.toNatClampNeg, 0))), (1, .inl v1), (3, .inl v3), (4, .inl s.1), (5, .inl s.2.1), (6, .inl s.2.2)] [] ids cG σ 0 0 Rt) (X := fun e => (e.1 = 0 → pw l (px_R 3) y_Ri_railAt c_Ri_railAt 8 (some .int) 73 [] [] ids cG σ 0 0 Rt) ∧ (e.1 = 1 → pw l (px_R 3) y_Ri_railAt c_Ri_railAt 8 (some .int) 89 [(5, .inl e.2)] [] ids cG σ 0 0 Rt)) ?_ ?_ n s e h ⟨hX0, hX1⟩
  · intro s s1 hf hC
    exact Ri_railAt_n30_l hf (fun s2 hs => by cases hs; exact hC) (fun e he ht => by cases he) (fun e he ht => by cases he)
  · intro s e hf hX
    exact Ri_railAt_n30_l hf (fun s2 hs => by cases hs) (fun e1 he ht => by cases he; exact hX.1 ht) (fun e1 he ht => by cases he; exact hX.2 ht)
def F_Ri_railAt (σ : pxS) (p0 : Int32) (v1 : Int32) : Option (Int32) :=
  px_b1 (F_Ri_within σ p0) fun r1 =>
  (if r1 = 0 then some ((-2)) else px_b1 (F_Ri_lowest σ r1) fun r2 =>
  px_b1 (F_Ri_linksBack σ p0 r2) fun r3 =>
  px_b1 (px_it (Ri_railAt_L30 σ p0 v1 r2) px_N (r3, r2, 0)) fun e11 =>
  (if e11.1 = 0 then some ((-2)) else some (e11.2)))
set_option maxRecDepth 100000 in
theorem e_Ri_railAt {l : Launch} {ids : List pxI} {Rt : Option pxV → List pxI → pxG → pxS → Prop} {σ : pxS} {p0 : Int32} {v1 : Int32} {res : Int32} (h : F_Ri_railAt σ p0 v1 = some res) (hR : Rt (some (.inl res)) ids cG σ) : pw l (px_R 3) y_Ri_railAt c_Ri_railAt 8 (some .int) 0 [(0, .inr (some (1, p0.toNatClampNeg, 0))), (1, .inl v1)] [] ids cG σ 0 0 Rt := by
  unfold F_Ri_railAt at h
  refine pw_aload_n 0 (px_at td_Ri_railAt 0 rfl) rfl rfl ?_
  obtain ⟨r1, hk1, h⟩ := px_b1_e h
  refine pw_cS1 [.inr (some (1, p0.toNatClampNeg, 0))] [] (px_at td_Ri_railAt 1 rfl) lS_Ri_19 rfl rfl (Nat.le_of_ble_eq_true rfl) (by decide) (k_Ri_within hk1) ?_
  refine pw_istore_n (L' := [(2, .inl r1), (0, .inr (some (1, p0.toNatClampNeg, 0))), (1, .inl v1)]) (px_at td_Ri_railAt 2 rfl) rfl (by decide) rfl ?_
  refine pw_iload_n 0 (px_at td_Ri_railAt 3 rfl) rfl rfl ?_
  rcases px_ite h with ⟨hc12, h⟩ | ⟨hc12, h⟩
  · refine pw_if_ne 12 (px_at td_Ri_railAt 4 rfl) (by decide) (fun hn => absurd hc12 hn) (fun _ => ?_)
    refine pw_bipush (v := (-2)) (px_at td_Ri_railAt 5 rfl) (by decide) ?_
    obtain rfl := Option.some.inj h
    exact pw_iret (px_at td_Ri_railAt 6 rfl) rfl (Nat.le_refl 0) (Nat.le_refl 0) hR
  · refine pw_if_ne 12 (px_at td_Ri_railAt 4 rfl) (by decide) (fun _ => ?_) (fun hn => absurd hn hc12)
    refine pw_iload_n 0 (px_at td_Ri_railAt 7 rfl) rfl rfl ?_
    obtain ⟨r2, hk2, h⟩ := px_b1_e h
    refine pw_cS1 [.inl r1] [] (px_at td_Ri_railAt 8 rfl) lS_Ri_25 rfl rfl (Nat.le_of_ble_eq_true rfl) (by decide) (k_Ri_lowest hk2) ?_
    refine pw_istore_n (L' := [(3, .inl r2), (2, .inl r1), (0, .inr (some (1, p0.toNatClampNeg, 0))), (1, .inl v1)]) (px_at td_Ri_railAt 9 rfl) rfl (by decide) rfl ?_
    refine pw_aload_n 2 (px_at td_Ri_railAt 10 rfl) rfl rfl ?_
    refine pw_iload_n 0 (px_at td_Ri_railAt 11 rfl) rfl rfl ?_
    obtain ⟨r3, hk3, h⟩ := px_b1_e h
    refine pw_cS1 [.inr (some (1, p0.toNatClampNeg, 0)), .inl r2] [] (px_at td_Ri_railAt 12 rfl) lS_Ri_29 rfl rfl (Nat.le_of_ble_eq_true rfl) (by decide) (k_Ri_linksBack hk3) ?_
    refine pw_istore (L' := [(4, .inl r3), (3, .inl r2), (2, .inl r1), (0, .inr (some (1, p0.toNatClampNeg, 0))), (1, .inl v1)]) (px_at td_Ri_railAt 13 rfl) (by decide) rfl ?_
    refine pw_iload_n 1 (px_at td_Ri_railAt 14 rfl) rfl rfl ?_
    refine pw_istore (L' := [(5, .inl r2), (4, .inl r3), (3, .inl r2), (2, .inl r1), (0, .inr (some (1, p0.toNatClampNeg, 0))), (1, .inl v1)]) (px_at td_Ri_railAt 15 rfl) (by decide) rfl ?_
    refine pw_iconst (v := 0) (px_at td_Ri_railAt 16 rfl) (by decide) ?_
    refine pw_istore (L' := [(6, .inl 0), (5, .inl r2), (4, .inl r3), (3, .inl r2), (2, .inl r1), (0, .inr (some (1, p0.toNatClampNeg, 0))), (1, .inl v1)]) (px_at td_Ri_railAt 17 rfl) (by decide) rfl ?_
    obtain ⟨e11, he11, h⟩ := px_b1_e h
    refine pw_L [(0, .inr (some (1, p0.toNatClampNeg, 0))), (1, .inl v1), (3, .inl r2), (4, .inl r3), (5, .inl r2), (6, .inl 0)] [5, 6, 3, 2, 1, 0] rfl ?_
    refine Ri_railAt_L30_l he11 (fun ht0 => ?_) (fun ht1 => ?_)
    · rw [if_pos ht0] at h
      refine pw_bipush (v := (-2)) (px_at td_Ri_railAt 39 rfl) (by decide) ?_
      obtain rfl := Option.some.inj h
      exact pw_iret (px_at td_Ri_railAt 40 rfl) rfl (Nat.le_refl 0) (Nat.le_refl 0) hR
    · rw [if_neg (by rw [ht1]; decide)] at h
      refine pw_iload 0 (px_at td_Ri_railAt 46 rfl) rfl ?_
      obtain rfl := Option.some.inj h
      exact pw_iret (px_at td_Ri_railAt 47 rfl) rfl (Nat.le_refl 0) (Nat.le_refl 0) hR
theorem k_Ri_railAt {l : Launch} {ids : List pxI} {σ : pxS} {p0 : Int32} {v1 : Int32} {res : Int32} (h : F_Ri_railAt σ p0 v1 = some res) : pm l y_Ri_railAt c_Ri_railAt 8 (some .int) (px_R 3) [.inr (some (1, p0.toNatClampNeg, 0)), .inl v1] ids cG σ (px_r (some (.inl res)) ids cG σ) :=
  pm_ofF (by decide +kernel) (Nat.le_of_ble_eq_true rfl) (e_Ri_railAt h ⟨rfl, rfl, rfl, rfl⟩)
