/-! Ma_floorMod -/
def Ma_floorMod_n18 (σ : pxS) (v2 : Int32) : Option (Int32) :=
  some (v2)
set_option maxRecDepth 100000 in
theorem Ma_floorMod_n18_l {l : Launch} {ids : List pxI} {Rt : Option pxV → List pxI → pxG → pxS → Prop} {σ : pxS} {v2 : Int32} {res : Int32} (h : Ma_floorMod_n18 σ v2 = some res) (hR : Rt (some (.inl res)) ids cG σ) : pw l (px_R 1) y_Ma_floorMod c_Ma_floorMod 3 (some .int) 18 [(2, .inl v2)] [] ids cG σ 0 0 Rt := by
  unfold Ma_floorMod_n18 at h
  refine pw_iload_n 0 (px_at td_Ma_floorMod 14 rfl) rfl rfl ?_
  obtain rfl := Option.some.inj h
  exact pw_iret (px_at td_Ma_floorMod 15 rfl) rfl (Nat.le_refl 0) (Nat.le_refl 0) hR
def F_Ma_floorMod (σ : pxS) (v0 : Int32) (v1 : Int32) : Option (Int32) :=
  px_gz v1 ((if 0 ≤ (v0 ^^^ v1) then Ma_floorMod_n18 σ (v0 - v0 / v1 * v1) else (if (v0 - v0 / v1 * v1) = 0 then Ma_floorMod_n18 σ (v0 - v0 / v1 * v1) else some (((v0 - v0 / v1 * v1) + v1)))))
set_option maxRecDepth 100000 in
theorem e_Ma_floorMod {l : Launch} {ids : List pxI} {Rt : Option pxV → List pxI → pxG → pxS → Prop} {σ : pxS} {v0 : Int32} {v1 : Int32} {res : Int32} (h : F_Ma_floorMod σ v0 v1 = some res) (hR : Rt (some (.inl res)) ids cG σ) : pw l (px_R 1) y_Ma_floorMod c_Ma_floorMod 3 (some .int) 0 [(0, .inl v0), (1, .inl v1)] [] ids cG σ 0 0 Rt := by
  unfold F_Ma_floorMod at h
  refine pw_iload_n 0 (px_at td_Ma_floorMod 0 rfl) rfl rfl ?_
  refine pw_iload_n 1 (px_at td_Ma_floorMod 1 rfl) rfl rfl ?_
  obtain ⟨hz1, h⟩ := px_gz_e h
  refine pw_irem (px_at td_Ma_floorMod 2 rfl) hz1 ?_
  refine pw_istore_n (L' := [(2, .inl (v0 - v0 / v1 * v1)), (0, .inl v0), (1, .inl v1)]) (px_at td_Ma_floorMod 3 rfl) rfl (by decide) rfl ?_
  refine pw_iload_n 1 (px_at td_Ma_floorMod 4 rfl) rfl rfl ?_
  refine pw_iload_n 2 (px_at td_Ma_floorMod 5 rfl) rfl rfl ?_
  refine pw_ixor (px_at td_Ma_floorMod 6 rfl) ?_
  rcases px_ite h with ⟨hc3, h⟩ | ⟨hc3, h⟩
  · refine pw_if_ge 18 (px_at td_Ma_floorMod 7 rfl) (by decide) (fun _ => ?_) (fun hn => absurd hc3 hn)
    refine pw_L [(2, .inl (v0 - v0 / v1 * v1))] [0] rfl ?_
    exact Ma_floorMod_n18_l h hR
  · refine pw_if_ge 18 (px_at td_Ma_floorMod 7 rfl) (by decide) (fun hn => absurd hn hc3) (fun _ => ?_)
    refine pw_iload_n 0 (px_at td_Ma_floorMod 8 rfl) rfl rfl ?_
    rcases px_ite h with ⟨hc2, h⟩ | ⟨hc2, h⟩
    · refine pw_if_eq 18 (px_at td_Ma_floorMod 9 rfl) (by decide) (fun _ => ?_) (fun hn => absurd hc2 hn)
      refine pw_L [(2, .inl (v0 - v0 / v1 * v1))] [0] rfl ?_
      exact Ma_floorMod_n18_l h hR
    · refine pw_if_eq 18 (px_at td_Ma_floorMod 9 rfl) (by decide) (fun hn => absurd hn hc2) (fun _ => ?_)
      refine pw_iload_n 0 (px_at td_Ma_floorMod 10 rfl) rfl rfl ?_
      refine pw_iload_n 2 (px_at td_Ma_floorMod 11 rfl) rfl rfl ?_
      refine pw_iadd (px_at td_Ma_floorMod 12 rfl) ?_
      obtain rfl := Option.some.inj h
      exact pw_iret (px_at td_Ma_floorMod 13 rfl) rfl (Nat.le_refl 0) (Nat.le_refl 0) hR
theorem k_Ma_floorMod {l : Launch} {ids : List pxI} {σ : pxS} {v0 : Int32} {v1 : Int32} {res : Int32} (h : F_Ma_floorMod σ v0 v1 = some res) : pm l y_Ma_floorMod c_Ma_floorMod 3 (some .int) (px_R 1) [.inl v0, .inl v1] ids cG σ (px_r (some (.inl res)) ids cG σ) :=
  pm_ofF (by decide +kernel) (Nat.le_of_ble_eq_true rfl) (e_Ma_floorMod h ⟨rfl, rfl, rfl, rfl⟩)
/-! Pl_allRails -/
def F_Pl_allRails (σ : pxS) (p0 : Int32) : Option (Int32) :=
  some (((1 <<< ((σ (1, p0.toNatClampNeg, 0) 0) &&& 31)) - 1))
set_option maxRecDepth 100000 in
theorem e_Pl_allRails {l : Launch} {ids : List pxI} {Rt : Option pxV → List pxI → pxG → pxS → Prop} {σ : pxS} {p0 : Int32} {res : Int32} (h : F_Pl_allRails σ p0 = some res) (hR : Rt (some (.inl res)) ids cG σ) : pw l (px_R 1) y_Pl_allRails c_Pl_allRails 1 (some .int) 0 [(0, .inr (some (1, p0.toNatClampNeg, 0)))] [] ids cG σ 0 0 Rt := by
  unfold F_Pl_allRails at h
  refine pw_iconst (v := 1) (px_at td_Pl_allRails 0 rfl) (by decide) ?_
  refine pw_aload_n 0 (px_at td_Pl_allRails 1 rfl) rfl rfl ?_
  refine pw_getf (v := .inl (σ (1, p0.toNatClampNeg, 0) 0)) (px_at td_Pl_allRails 2 rfl) lf_Pl_57 rfl rfl rfl ?_
  refine pw_ishl (px_at td_Pl_allRails 3 rfl) ?_
  refine pw_iconst (v := 1) (px_at td_Pl_allRails 4 rfl) (by decide) ?_
  refine pw_isub (px_at td_Pl_allRails 5 rfl) ?_
  obtain rfl := Option.some.inj h
  exact pw_iret (px_at td_Pl_allRails 6 rfl) rfl (Nat.le_refl 0) (Nat.le_refl 0) hR
theorem k_Pl_allRails {l : Launch} {ids : List pxI} {σ : pxS} {p0 : Int32} {res : Int32} (h : F_Pl_allRails σ p0 = some res) : pm l y_Pl_allRails c_Pl_allRails 1 (some .int) (px_R 1) [.inr (some (1, p0.toNatClampNeg, 0))] ids cG σ (px_r (some (.inl res)) ids cG σ) :=
  pm_ofF (by decide +kernel) (Nat.le_of_ble_eq_true rfl) (e_Pl_allRails h ⟨rfl, rfl, rfl, rfl⟩)
/-! Pl_directOfAll -/
def Pl_directOfAll_n29 (σ : pxS) (p0 : Int32) (v1 : Int32) (v2 : Int32) (v3 : Int32) : Option ((Int32 × Int32) ⊕ (Int32)) :=
  some (.inl (v2, (v3 + 1)))
set_option maxRecDepth 100000 in
theorem Pl_directOfAll_n29_l {l : Launch} {ids : List pxI} {Rt : Option pxV → List pxI → pxG → pxS → Prop} {σ : pxS} {p0 : Int32} {v1 : Int32} {v2 : Int32} {v3 : Int32} {o : (Int32 × Int32) ⊕ (Int32)} (h : Pl_directOfAll_n29 σ p0 v1 v2 v3 = some o) (hC : ∀ s, o = .inl s → pw l (px_R 1) y_Pl_directOfAll c_Pl_directOfAll 4 (some .int) 4 [(0, .inr (some (1, p0.toNatClampNeg, 0))), (1, .inl v1), (2, .inl s.1), (3, .inl s.2)] [] ids cG σ 0 0 Rt) (hX0 : ∀ e, o = .inr e → pw l (px_R 1) y_Pl_directOfAll c_Pl_directOfAll 4 (some .int) 35 [(2, .inl e)] [] ids cG σ 0 0 Rt) : pw l (px_R 1) y_Pl_directOfAll c_Pl_directOfAll 4 (some .int) 29 [(0, .inr (some (1, p0.toNatClampNeg, 0))), (1, .inl v1), (2, .inl v2), (3, .inl v3)] [] ids cG σ 0 0 Rt := by
  unfold Pl_directOfAll_n29 at h
  refine pw_iinc (q := 3) (v := (v3 + 1)) (L' := [(3, .inl (v3 + 1)), (0, .inr (some (1, p0.toNatClampNeg, 0))), (1, .inl v1), (2, .inl v2)]) (px_at td_Pl_directOfAll 21 rfl) rfl rfl (by decide) rfl ?_
  refine pw_goto 4 (px_at td_Pl_directOfAll 22 rfl) (by decide) ?_
  refine pw_L [(0, .inr (some (1, p0.toNatClampNeg, 0))), (1, .inl v1), (2, .inl v2), (3, .inl (v3 + 1))] [1, 2, 3, 0] rfl ?_
  exact hC (v2, (v3 + 1)) (Option.some.inj h).symm
def Pl_directOfAll_n4 (σ : pxS) (p0 : Int32) (v1 : Int32) (v2 : Int32) (v3 : Int32) : Option ((Int32 × Int32) ⊕ (Int32)) :=
  (if (σ (1, p0.toNatClampNeg, 0) 0) ≤ v3 then some (.inr v2) else (if ((v1 >>> (v3 &&& 31)) &&& 1) = 0 then Pl_directOfAll_n29 σ p0 v1 v2 v3 else px_gd v3 12 (Pl_directOfAll_n29 σ p0 v1 (v2 ||| (σ (8, p0.toNatClampNeg, 8) v3.toNatClampNeg)) v3)))
set_option maxRecDepth 100000 in
theorem Pl_directOfAll_n4_l {l : Launch} {ids : List pxI} {Rt : Option pxV → List pxI → pxG → pxS → Prop} {σ : pxS} {p0 : Int32} {v1 : Int32} {v2 : Int32} {v3 : Int32} {o : (Int32 × Int32) ⊕ (Int32)} (h : Pl_directOfAll_n4 σ p0 v1 v2 v3 = some o) (hC : ∀ s, o = .inl s → pw l (px_R 1) y_Pl_directOfAll c_Pl_directOfAll 4 (some .int) 4 [(0, .inr (some (1, p0.toNatClampNeg, 0))), (1, .inl v1), (2, .inl s.1), (3, .inl s.2)] [] ids cG σ 0 0 Rt) (hX0 : ∀ e, o = .inr e → pw l (px_R 1) y_Pl_directOfAll c_Pl_directOfAll 4 (some .int) 35 [(2, .inl e)] [] ids cG σ 0 0 Rt) : pw l (px_R 1) y_Pl_directOfAll c_Pl_directOfAll 4 (some .int) 4 [(0, .inr (some (1, p0.toNatClampNeg, 0))), (1, .inl v1), (2, .inl v2), (3, .inl v3)] [] ids cG σ 0 0 Rt := by
  unfold Pl_directOfAll_n4 at h
  refine pw_iload_n 3 (px_at td_Pl_directOfAll 4 rfl) rfl rfl ?_
  refine pw_aload_n 0 (px_at td_Pl_directOfAll 5 rfl) rfl rfl ?_
  refine pw_getf (v := .inl (σ (1, p0.toNatClampNeg, 0) 0)) (px_at td_Pl_directOfAll 6 rfl) lf_Pl_57 rfl rfl rfl ?_
  rcases px_ite h with ⟨hc3, h⟩ | ⟨hc3, h⟩
  · refine pw_icmp_ge 35 (px_at td_Pl_directOfAll 7 rfl) (by decide) (fun _ => ?_) (fun hn => absurd hc3 hn)
    refine pw_L [(2, .inl v2)] [2] rfl ?_
    exact hX0 v2 (Option.some.inj h).symm
  · refine pw_icmp_ge 35 (px_at td_Pl_directOfAll 7 rfl) (by decide) (fun hn => absurd hn hc3) (fun _ => ?_)
    refine pw_iload_n 1 (px_at td_Pl_directOfAll 8 rfl) rfl rfl ?_
    refine pw_iload_n 3 (px_at td_Pl_directOfAll 9 rfl) rfl rfl ?_
    refine pw_ishr (px_at td_Pl_directOfAll 10 rfl) ?_
    refine pw_iconst (v := 1) (px_at td_Pl_directOfAll 11 rfl) (by decide) ?_
    refine pw_iand (px_at td_Pl_directOfAll 12 rfl) ?_
    rcases px_ite h with ⟨hc2, h⟩ | ⟨hc2, h⟩
    · refine pw_if_eq 29 (px_at td_Pl_directOfAll 13 rfl) (by decide) (fun _ => ?_) (fun hn => absurd hc2 hn)
      exact Pl_directOfAll_n29_l h hC hX0
    · refine pw_if_eq 29 (px_at td_Pl_directOfAll 13 rfl) (by decide) (fun hn => absurd hn hc2) (fun _ => ?_)
      refine pw_iload_n 2 (px_at td_Pl_directOfAll 14 rfl) rfl rfl ?_
      refine pw_aload_n 0 (px_at td_Pl_directOfAll 15 rfl) rfl rfl ?_
      refine pw_getf (v := .inr (some (8, p0.toNatClampNeg, 8))) (px_at td_Pl_directOfAll 16 rfl) lf_Pl_36 rfl rfl rfl ?_
      refine pw_iload_n 3 (px_at td_Pl_directOfAll 17 rfl) rfl rfl ?_
      obtain ⟨hi1, h⟩ := px_gd_e h
      refine pw_ial (px_at td_Pl_directOfAll 18 rfl) rfl hi1 rfl ?_
      refine pw_ior (px_at td_Pl_directOfAll 19 rfl) ?_
      refine pw_istore_n (L' := [(2, .inl (v2 ||| (σ (8, p0.toNatClampNeg, 8) v3.toNatClampNeg))), (0, .inr (some (1, p0.toNatClampNeg, 0))), (1, .inl v1), (3, .inl v3)]) (px_at td_Pl_directOfAll 20 rfl) rfl (by decide) rfl ?_
      refine pw_L [(0, .inr (some (1, p0.toNatClampNeg, 0))), (1, .inl v1), (2, .inl (v2 ||| (σ (8, p0.toNatClampNeg, 8) v3.toNatClampNeg))), (3, .inl v3)] [1, 2, 0, 3] rfl ?_
      exact Pl_directOfAll_n29_l h hC hX0
def Pl_directOfAll_L4 (σ : pxS) (p0 : Int32) (v1 : Int32) : (Int32 × Int32) → Option ((Int32 × Int32) ⊕ (Int32)) := fun s => Pl_directOfAll_n4 σ p0 v1 s.1 s.2
set_option maxRecDepth 100000 in
theorem Pl_directOfAll_L4_l {l : Launch} {ids : List pxI} {Rt : Option pxV → List pxI → pxG → pxS → Prop} {σ : pxS} {p0 : Int32} {v1 : Int32} {n : Nat} {s : Int32 × Int32} {e : Int32} (h : px_it (Pl_directOfAll_L4 σ p0 v1) n s = some e) (hX0 : pw l (px_R 1) y_Pl_directOfAll c_Pl_directOfAll 4 (some .int) 35 [(2, .inl e)] [] ids cG σ 0 0 Rt) : pw l (px_R 1) y_Pl_directOfAll c_Pl_directOfAll 4 (some .int) 4 [(0, .inr (some (1, p0.toNatClampNeg, 0))), (1, .inl v1), (2, .inl s.1), (3, .inl s.2)] [] ids cG σ 0 0 Rt := by
  refine px_it_rule (f := Pl_directOfAll_L4 σ p0 v1) (C := fun s => pw l (px_R 1) y_Pl_directOfAll c_Pl_directOfAll 4 (some .int) 4 [(0, .inr (some (1, p0.toNatClampNeg, 0))), (1, .inl v1), (2, .inl s.1), (3, .inl s.2)] [] ids cG σ 0 0 Rt) (X := fun e => (pw l (px_R 1) y_Pl_directOfAll c_Pl_directOfAll 4 (some .int) 35 [(2, .inl e)] [] ids cG σ 0 0 Rt)) ?_ ?_ n s e h hX0
  · intro s s1 hf hC
    exact Pl_directOfAll_n4_l hf (fun s2 hs => by cases hs; exact hC) (fun e he => by cases he)
  · intro s e hf hX
    exact Pl_directOfAll_n4_l hf (fun s2 hs => by cases hs) (fun e1 he => by cases he; exact hX)
def F_Pl_directOfAll (σ : pxS) (p0 : Int32) (v1 : Int32) : Option (Int32) :=
  px_b1 (px_it (Pl_directOfAll_L4 σ p0 v1) px_N (0, 0)) fun e4 =>
  some (e4)
set_option maxRecDepth 100000 in
theorem e_Pl_directOfAll {l : Launch} {ids : List pxI} {Rt : Option pxV → List pxI → pxG → pxS → Prop} {σ : pxS} {p0 : Int32} {v1 : Int32} {res : Int32} (h : F_Pl_directOfAll σ p0 v1 = some res) (hR : Rt (some (.inl res)) ids cG σ) : pw l (px_R 1) y_Pl_directOfAll c_Pl_directOfAll 4 (some .int) 0 [(0, .inr (some (1, p0.toNatClampNeg, 0))), (1, .inl v1)] [] ids cG σ 0 0 Rt := by
  unfold F_Pl_directOfAll at h
  refine pw_iconst (v := 0) (px_at td_Pl_directOfAll 0 rfl) (by decide) ?_
  refine pw_istore_n (L' := [(2, .inl 0), (0, .inr (some (1, p0.toNatClampNeg, 0))), (1, .inl v1)]) (px_at td_Pl_directOfAll 1 rfl) rfl (by decide) rfl ?_
  refine pw_iconst (v := 0) (px_at td_Pl_directOfAll 2 rfl) (by decide) ?_
  refine pw_istore_n (L' := [(3, .inl 0), (2, .inl 0), (0, .inr (some (1, p0.toNatClampNeg, 0))), (1, .inl v1)]) (px_at td_Pl_directOfAll 3 rfl) rfl (by decide) rfl ?_
  obtain ⟨e4, he4, h⟩ := px_b1_e h
  refine pw_L [(0, .inr (some (1, p0.toNatClampNeg, 0))), (1, .inl v1), (2, .inl 0), (3, .inl 0)] [2, 3, 1, 0] rfl ?_
  refine Pl_directOfAll_L4_l he4 ?_
  refine pw_iload_n 0 (px_at td_Pl_directOfAll 23 rfl) rfl rfl ?_
  obtain rfl := Option.some.inj h
  exact pw_iret (px_at td_Pl_directOfAll 24 rfl) rfl (Nat.le_refl 0) (Nat.le_refl 0) hR
theorem k_Pl_directOfAll {l : Launch} {ids : List pxI} {σ : pxS} {p0 : Int32} {v1 : Int32} {res : Int32} (h : F_Pl_directOfAll σ p0 v1 = some res) : pm l y_Pl_directOfAll c_Pl_directOfAll 4 (some .int) (px_R 1) [.inr (some (1, p0.toNatClampNeg, 0)), .inl v1] ids cG σ (px_r (some (.inl res)) ids cG σ) :=
  pm_ofF (by decide +kernel) (Nat.le_of_ble_eq_true rfl) (e_Pl_directOfAll h ⟨rfl, rfl, rfl, rfl⟩)
/-! Pl_surge -/
def F_Pl_surge (σ : pxS) (p0 : Int32) (v1 : Int32) : Option (Int32) :=
  px_gd v1 12 (px_gd v1 12 (px_gd v1 12 (some ((((σ (8, p0.toNatClampNeg, 4) v1.toNatClampNeg) * (if (σ (8, p0.toNatClampNeg, 2) v1.toNatClampNeg) < (σ (8, p0.toNatClampNeg, 3) v1.toNatClampNeg) then (σ (8, p0.toNatClampNeg, 2) v1.toNatClampNeg) else (σ (8, p0.toNatClampNeg, 3) v1.toNatClampNeg))) / 16)))))
set_option maxRecDepth 100000 in
theorem e_Pl_surge {l : Launch} {ids : List pxI} {Rt : Option pxV → List pxI → pxG → pxS → Prop} {σ : pxS} {p0 : Int32} {v1 : Int32} {res : Int32} (h : F_Pl_surge σ p0 v1 = some res) (hR : Rt (some (.inl res)) ids cG σ) : pw l (px_R 1) y_Pl_surge c_Pl_surge 2 (some .int) 0 [(0, .inr (some (1, p0.toNatClampNeg, 0))), (1, .inl v1)] [] ids cG σ 0 0 Rt := by
  unfold F_Pl_surge at h
  refine pw_aload_n 0 (px_at td_Pl_surge 0 rfl) rfl rfl ?_
  refine pw_getf (v := .inr (some (8, p0.toNatClampNeg, 4))) (px_at td_Pl_surge 1 rfl) lf_Pl_24 rfl rfl rfl ?_
  refine pw_iload_n 1 (px_at td_Pl_surge 2 rfl) rfl rfl ?_
  obtain ⟨hi1, h⟩ := px_gd_e h
  refine pw_ial (px_at td_Pl_surge 3 rfl) rfl hi1 rfl ?_
  refine pw_aload_n 0 (px_at td_Pl_surge 4 rfl) rfl rfl ?_
  refine pw_getf (v := .inr (some (8, p0.toNatClampNeg, 3))) (px_at td_Pl_surge 5 rfl) lf_Pl_21 rfl rfl rfl ?_
  refine pw_iload_n 1 (px_at td_Pl_surge 6 rfl) rfl rfl ?_
  obtain ⟨hi2, h⟩ := px_gd_e h
  refine pw_ial (px_at td_Pl_surge 7 rfl) rfl hi2 rfl ?_
  refine pw_aload_n 0 (px_at td_Pl_surge 8 rfl) rfl rfl ?_
  refine pw_getf (v := .inr (some (8, p0.toNatClampNeg, 2))) (px_at td_Pl_surge 9 rfl) lf_Pl_18 rfl rfl rfl ?_
  refine pw_iload_n 1 (px_at td_Pl_surge 10 rfl) rfl rfl ?_
  obtain ⟨hi3, h⟩ := px_gd_e h
  refine pw_ial (px_at td_Pl_surge 11 rfl) rfl hi3 rfl ?_
  refine pw_mmin (px_at td_Pl_surge 12 rfl) lm_Pl_68 ws_Math_min wi_java_lang_Math wc_Math_min (by decide) (Nat.le_of_ble_eq_true rfl) (Nat.le_refl 0) (Nat.le_refl 0) ?_
  refine pw_imul (px_at td_Pl_surge 13 rfl) ?_
  refine pw_bipush (v := 16) (px_at td_Pl_surge 14 rfl) (by decide) ?_
  refine pw_idiv (px_at td_Pl_surge 15 rfl) (by decide) ?_
  obtain rfl := Option.some.inj h
  exact pw_iret (px_at td_Pl_surge 16 rfl) rfl (Nat.le_refl 0) (Nat.le_refl 0) hR
theorem k_Pl_surge {l : Launch} {ids : List pxI} {σ : pxS} {p0 : Int32} {v1 : Int32} {res : Int32} (h : F_Pl_surge σ p0 v1 = some res) : pm l y_Pl_surge c_Pl_surge 2 (some .int) (px_R 1) [.inr (some (1, p0.toNatClampNeg, 0)), .inl v1] ids cG σ (px_r (some (.inl res)) ids cG σ) :=
  pm_ofF (by decide +kernel) (Nat.le_of_ble_eq_true rfl) (e_Pl_surge h ⟨rfl, rfl, rfl, rfl⟩)
/-! Pl_forget -/
def F_Pl_forget (σ : pxS) (p0 : Int32) : Option (pxS) :=
  px_l (px_up σ (1, p0.toNatClampNeg, 0) 0 0) fun σ1 =>
  px_l (px_up σ1 (1, p0.toNatClampNeg, 0) 1 0) fun σ2 =>
  px_l (px_up σ2 (1, p0.toNatClampNeg, 0) 2 0) fun σ3 =>
  px_l (px_up σ3 (8, p0.toNatClampNeg, 14) 0 50) fun σ4 =>
  px_l (px_up σ4 (8, p0.toNatClampNeg, 14) 1 500) fun σ5 =>
  px_l (px_up σ5 (8, p0.toNatClampNeg, 14) 2 90) fun σ6 =>
  px_l (px_up σ6 (8, p0.toNatClampNeg, 14) 3 1) fun σ7 =>
  px_l (px_up σ7 (8, p0.toNatClampNeg, 14) 4 0) fun σ8 =>
  px_l (px_up σ8 (8, p0.toNatClampNeg, 14) 5 10) fun σ9 =>
  px_l (px_up σ9 (8, p0.toNatClampNeg, 14) 6 99999) fun σ10 =>
  px_l (px_up σ10 (8, p0.toNatClampNeg, 14) 7 0) fun σ11 =>
  some σ11
set_option maxRecDepth 100000 in
theorem e_Pl_forget {l : Launch} {ids : List pxI} {Rt : Option pxV → List pxI → pxG → pxS → Prop} {σ : pxS} {p0 : Int32} {res : pxS} (h : F_Pl_forget σ p0 = some res) (hR : Rt none ids cG res) : pw l (px_R 1) y_Pl_forget c_Pl_forget 1 none 0 [(0, .inr (some (1, p0.toNatClampNeg, 0)))] [] ids cG σ 0 0 Rt := by
  unfold F_Pl_forget at h
  refine pw_aload_n 0 (px_at td_Pl_forget 0 rfl) rfl rfl ?_
  refine pw_iconst (v := 0) (px_at td_Pl_forget 1 rfl) (by decide) ?_
  obtain ⟨σ1, hσ1, h⟩ := px_l_e h
  refine pw_puti (px_at td_Pl_forget 2 rfl) lw_Pl_57 rfl rfl (pw_s hσ1 ?_)
  refine pw_aload_n 0 (px_at td_Pl_forget 3 rfl) rfl rfl ?_
  refine pw_iconst (v := 0) (px_at td_Pl_forget 4 rfl) (by decide) ?_
  obtain ⟨σ2, hσ2, h⟩ := px_l_e h
  refine pw_puti (px_at td_Pl_forget 5 rfl) lw_Pl_61 rfl rfl (pw_s hσ2 ?_)
  refine pw_aload_n 0 (px_at td_Pl_forget 6 rfl) rfl rfl ?_
  refine pw_iconst (v := 0) (px_at td_Pl_forget 7 rfl) (by decide) ?_
  obtain ⟨σ3, hσ3, h⟩ := px_l_e h
  refine pw_puti (px_at td_Pl_forget 8 rfl) lw_Pl_64 rfl rfl (pw_s hσ3 ?_)
  refine pw_aload_n 0 (px_at td_Pl_forget 9 rfl) rfl rfl ?_
  refine pw_getf (v := .inr (some (8, p0.toNatClampNeg, 14))) (px_at td_Pl_forget 10 rfl) lf_Pl_54 rfl rfl rfl ?_
  refine pw_iconst (v := 0) (px_at td_Pl_forget 11 rfl) (by decide) ?_
  refine pw_bipush (v := 50) (px_at td_Pl_forget 12 rfl) (by decide) ?_
  obtain ⟨σ4, hσ4, h⟩ := px_l_e h
  refine pw_ias (px_at td_Pl_forget 13 rfl) rfl (px_inL (by decide) px_z0 (by decide)) px_z0 hσ4 ?_
  refine pw_aload_n 0 (px_at td_Pl_forget 14 rfl) rfl rfl ?_
  refine pw_getf (v := .inr (some (8, p0.toNatClampNeg, 14))) (px_at td_Pl_forget 15 rfl) lf_Pl_54 rfl rfl rfl ?_
  refine pw_iconst (v := 1) (px_at td_Pl_forget 16 rfl) (by decide) ?_
  refine pw_sipush (v := 500) (px_at td_Pl_forget 17 rfl) (by decide) ?_
  obtain ⟨σ5, hσ5, h⟩ := px_l_e h
  refine pw_ias (px_at td_Pl_forget 18 rfl) rfl (px_inL (by decide) px_z1 (by decide)) px_z1 hσ5 ?_
  refine pw_aload_n 0 (px_at td_Pl_forget 19 rfl) rfl rfl ?_
  refine pw_getf (v := .inr (some (8, p0.toNatClampNeg, 14))) (px_at td_Pl_forget 20 rfl) lf_Pl_54 rfl rfl rfl ?_
  refine pw_iconst (v := 2) (px_at td_Pl_forget 21 rfl) (by decide) ?_
  refine pw_bipush (v := 90) (px_at td_Pl_forget 22 rfl) (by decide) ?_
  obtain ⟨σ6, hσ6, h⟩ := px_l_e h
  refine pw_ias (px_at td_Pl_forget 23 rfl) rfl (px_inL (by decide) px_z2 (by decide)) px_z2 hσ6 ?_
  refine pw_aload_n 0 (px_at td_Pl_forget 24 rfl) rfl rfl ?_
  refine pw_getf (v := .inr (some (8, p0.toNatClampNeg, 14))) (px_at td_Pl_forget 25 rfl) lf_Pl_54 rfl rfl rfl ?_
  refine pw_iconst (v := 3) (px_at td_Pl_forget 26 rfl) (by decide) ?_
  refine pw_iconst (v := 1) (px_at td_Pl_forget 27 rfl) (by decide) ?_
  obtain ⟨σ7, hσ7, h⟩ := px_l_e h
  refine pw_ias (px_at td_Pl_forget 28 rfl) rfl (px_inL (by decide) px_z3 (by decide)) px_z3 hσ7 ?_
  refine pw_aload_n 0 (px_at td_Pl_forget 29 rfl) rfl rfl ?_
  refine pw_getf (v := .inr (some (8, p0.toNatClampNeg, 14))) (px_at td_Pl_forget 30 rfl) lf_Pl_54 rfl rfl rfl ?_
  refine pw_iconst (v := 4) (px_at td_Pl_forget 31 rfl) (by decide) ?_
  refine pw_iconst (v := 0) (px_at td_Pl_forget 32 rfl) (by decide) ?_
  obtain ⟨σ8, hσ8, h⟩ := px_l_e h
  refine pw_ias (px_at td_Pl_forget 33 rfl) rfl (px_inL (by decide) px_z4 (by decide)) px_z4 hσ8 ?_
  refine pw_aload_n 0 (px_at td_Pl_forget 34 rfl) rfl rfl ?_
  refine pw_getf (v := .inr (some (8, p0.toNatClampNeg, 14))) (px_at td_Pl_forget 35 rfl) lf_Pl_54 rfl rfl rfl ?_
  refine pw_iconst (v := 5) (px_at td_Pl_forget 36 rfl) (by decide) ?_
  refine pw_bipush (v := 10) (px_at td_Pl_forget 37 rfl) (by decide) ?_
  obtain ⟨σ9, hσ9, h⟩ := px_l_e h
  refine pw_ias (px_at td_Pl_forget 38 rfl) rfl (px_inL (by decide) px_z5 (by decide)) px_z5 hσ9 ?_
  refine pw_aload_n 0 (px_at td_Pl_forget 39 rfl) rfl rfl ?_
  refine pw_getf (v := .inr (some (8, p0.toNatClampNeg, 14))) (px_at td_Pl_forget 40 rfl) lf_Pl_54 rfl rfl rfl ?_
  refine pw_bipush (v := 6) (px_at td_Pl_forget 41 rfl) (by decide) ?_
  refine pw_ldc (v := 99999) (px_at td_Pl_forget 42 rfl) lc_Pl_67 ?_
  obtain ⟨σ10, hσ10, h⟩ := px_l_e h
  refine pw_ias (px_at td_Pl_forget 43 rfl) rfl (px_inL (by decide) px_z6 (by decide)) px_z6 hσ10 ?_
  refine pw_aload_n 0 (px_at td_Pl_forget 44 rfl) rfl rfl ?_
  refine pw_getf (v := .inr (some (8, p0.toNatClampNeg, 14))) (px_at td_Pl_forget 45 rfl) lf_Pl_54 rfl rfl rfl ?_
  refine pw_bipush (v := 7) (px_at td_Pl_forget 46 rfl) (by decide) ?_
  refine pw_iconst (v := 0) (px_at td_Pl_forget 47 rfl) (by decide) ?_
  obtain ⟨σ11, hσ11, h⟩ := px_l_e h
  refine pw_ias (px_at td_Pl_forget 48 rfl) rfl (px_inL (by decide) px_z7 (by decide)) px_z7 hσ11 ?_
  obtain rfl := Option.some.inj h
  exact pw_vret (px_at td_Pl_forget 49 rfl) rfl (Nat.le_refl 0) (Nat.le_refl 0) hR
theorem k_Pl_forget {l : Launch} {ids : List pxI} {σ : pxS} {p0 : Int32} {res : pxS} (h : F_Pl_forget σ p0 = some res) : pm l y_Pl_forget c_Pl_forget 1 none (px_R 1) [.inr (some (1, p0.toNatClampNeg, 0))] ids cG σ (px_r none ids cG res) :=
  pm_ofF (by decide +kernel) (Nat.le_of_ble_eq_true rfl) (e_Pl_forget h ⟨rfl, rfl, rfl, rfl⟩)
/-! Pl_find -/
def Pl_find_n2 (σ : pxS) (p0 : Int32) (v1 : Int32) (v2 : Int32) : Option ((Int32) ⊕ (Nat × Int32)) :=
  (if (σ (1, p0.toNatClampNeg, 0) 0) ≤ v2 then some (.inr (1, 0)) else px_gd v2 12 ((if (σ (8, p0.toNatClampNeg, 0) v2.toNatClampNeg) = v1 then some (.inr (0, v2)) else some (.inl (v2 + 1)))))
set_option maxRecDepth 100000 in
theorem Pl_find_n2_l {l : Launch} {ids : List pxI} {Rt : Option pxV → List pxI → pxG → pxS → Prop} {σ : pxS} {p0 : Int32} {v1 : Int32} {v2 : Int32} {o : (Int32) ⊕ (Nat × Int32)} (h : Pl_find_n2 σ p0 v1 v2 = some o) (hC : ∀ s, o = .inl s → pw l (px_R 1) y_Pl_find c_Pl_find 3 (some .int) 2 [(0, .inr (some (1, p0.toNatClampNeg, 0))), (1, .inl v1), (2, .inl s)] [] ids cG σ 0 0 Rt) (hX0 : ∀ e, o = .inr e → e.1 = 0 → pw l (px_R 1) y_Pl_find c_Pl_find 3 (some .int) 20 [(2, .inl e.2)] [] ids cG σ 0 0 Rt) (hX1 : ∀ e, o = .inr e → e.1 = 1 → pw l (px_R 1) y_Pl_find c_Pl_find 3 (some .int) 28 [] [] ids cG σ 0 0 Rt) : pw l (px_R 1) y_Pl_find c_Pl_find 3 (some .int) 2 [(0, .inr (some (1, p0.toNatClampNeg, 0))), (1, .inl v1), (2, .inl v2)] [] ids cG σ 0 0 Rt := by
  unfold Pl_find_n2 at h
  refine pw_iload_n 2 (px_at td_Pl_find 2 rfl) rfl rfl ?_
  refine pw_aload_n 0 (px_at td_Pl_find 3 rfl) rfl rfl ?_
  refine pw_getf (v := .inl (σ (1, p0.toNatClampNeg, 0) 0)) (px_at td_Pl_find 4 rfl) lf_Pl_57 rfl rfl rfl ?_
  rcases px_ite h with ⟨hc3, h⟩ | ⟨hc3, h⟩
  · refine pw_icmp_ge 28 (px_at td_Pl_find 5 rfl) (by decide) (fun _ => ?_) (fun hn => absurd hc3 hn)
    refine pw_L [] [] rfl ?_
    exact hX1 (1, 0) (Option.some.inj h).symm rfl
  · refine pw_icmp_ge 28 (px_at td_Pl_find 5 rfl) (by decide) (fun hn => absurd hn hc3) (fun _ => ?_)
    refine pw_aload_n 0 (px_at td_Pl_find 6 rfl) rfl rfl ?_
    refine pw_getf (v := .inr (some (8, p0.toNatClampNeg, 0))) (px_at td_Pl_find 7 rfl) lf_Pl_9 rfl rfl rfl ?_
    refine pw_iload_n 2 (px_at td_Pl_find 8 rfl) rfl rfl ?_
    obtain ⟨hi1, h⟩ := px_gd_e h
    refine pw_ial (px_at td_Pl_find 9 rfl) rfl hi1 rfl ?_
    refine pw_iload_n 1 (px_at td_Pl_find 10 rfl) rfl rfl ?_
    rcases px_ite h with ⟨hc2, h⟩ | ⟨hc2, h⟩
    · refine pw_icmp_ne 22 (px_at td_Pl_find 11 rfl) (by decide) (fun hn => absurd hc2 hn) (fun _ => ?_)
      refine pw_L [(2, .inl v2)] [2] rfl ?_
      exact hX0 (0, v2) (Option.some.inj h).symm rfl
    · refine pw_icmp_ne 22 (px_at td_Pl_find 11 rfl) (by decide) (fun _ => ?_) (fun hn => absurd hn hc2)
      refine pw_iinc (q := 2) (v := (v2 + 1)) (L' := [(2, .inl (v2 + 1)), (0, .inr (some (1, p0.toNatClampNeg, 0))), (1, .inl v1)]) (px_at td_Pl_find 14 rfl) rfl rfl (by decide) rfl ?_
      refine pw_goto 2 (px_at td_Pl_find 15 rfl) (by decide) ?_
      refine pw_L [(0, .inr (some (1, p0.toNatClampNeg, 0))), (1, .inl v1), (2, .inl (v2 + 1))] [1, 2, 0] rfl ?_
      exact hC (v2 + 1) (Option.some.inj h).symm
def Pl_find_L2 (σ : pxS) (p0 : Int32) (v1 : Int32) : (Int32) → Option ((Int32) ⊕ (Nat × Int32)) := fun s => Pl_find_n2 σ p0 v1 s
set_option maxRecDepth 100000 in
theorem Pl_find_L2_l {l : Launch} {ids : List pxI} {Rt : Option pxV → List pxI → pxG → pxS → Prop} {σ : pxS} {p0 : Int32} {v1 : Int32} {n : Nat} {s : Int32} {e : Nat × Int32} (h : px_it (Pl_find_L2 σ p0 v1) n s = some e) (hX0 : e.1 = 0 → pw l (px_R 1) y_Pl_find c_Pl_find 3 (some .int) 20 [(2, .inl e.2)] [] ids cG σ 0 0 Rt) (hX1 : e.1 = 1 → pw l (px_R 1) y_Pl_find c_Pl_find 3 (some .int) 28 [] [] ids cG σ 0 0 Rt) : pw l (px_R 1) y_Pl_find c_Pl_find 3 (some .int) 2 [(0, .inr (some (1, p0.toNatClampNeg, 0))), (1, .inl v1), (2, .inl s)] [] ids cG σ 0 0 Rt := by
  refine px_it_rule (f := Pl_find_L2 σ p0 v1) (C := fun s => pw l (px_R 1) y_Pl_find c_Pl_find 3 (some .int) 2 [(0, .inr (some (1, p0.toNatClampNeg, 0))), (1, .inl v1), (2, .inl s)] [] ids cG σ 0 0 Rt) (X := fun e => (e.1 = 0 → pw l (px_R 1) y_Pl_find c_Pl_find 3 (some .int) 20 [(2, .inl e.2)] [] ids cG σ 0 0 Rt) ∧ (e.1 = 1 → pw l (px_R 1) y_Pl_find c_Pl_find 3 (some .int) 28 [] [] ids cG σ 0 0 Rt)) ?_ ?_ n s e h ⟨hX0, hX1⟩
  · intro s s1 hf hC
    exact Pl_find_n2_l hf (fun s2 hs => by cases hs; exact hC) (fun e he ht => by cases he) (fun e he ht => by cases he)
  · intro s e hf hX
    exact Pl_find_n2_l hf (fun s2 hs => by cases hs) (fun e1 he ht => by cases he; exact hX.1 ht) (fun e1 he ht => by cases he; exact hX.2 ht)
def F_Pl_find (σ : pxS) (p0 : Int32) (v1 : Int32) : Option (Int32) :=
  px_b1 (px_it (Pl_find_L2 σ p0 v1) px_N 0) fun e4 =>
  (if e4.1 = 0 then some (e4.2) else some ((-1)))
set_option maxRecDepth 100000 in
theorem e_Pl_find {l : Launch} {ids : List pxI} {Rt : Option pxV → List pxI → pxG → pxS → Prop} {σ : pxS} {p0 : Int32} {v1 : Int32} {res : Int32} (h : F_Pl_find σ p0 v1 = some res) (hR : Rt (some (.inl res)) ids cG σ) : pw l (px_R 1) y_Pl_find c_Pl_find 3 (some .int) 0 [(0, .inr (some (1, p0.toNatClampNeg, 0))), (1, .inl v1)] [] ids cG σ 0 0 Rt := by
  unfold F_Pl_find at h
  refine pw_iconst (v := 0) (px_at td_Pl_find 0 rfl) (by decide) ?_
  refine pw_istore_n (L' := [(2, .inl 0), (0, .inr (some (1, p0.toNatClampNeg, 0))), (1, .inl v1)]) (px_at td_Pl_find 1 rfl) rfl (by decide) rfl ?_
  obtain ⟨e4, he4, h⟩ := px_b1_e h
  refine pw_L [(0, .inr (some (1, p0.toNatClampNeg, 0))), (1, .inl v1), (2, .inl 0)] [1, 2, 0] rfl ?_
  refine Pl_find_L2_l he4 (fun ht0 => ?_) (fun ht1 => ?_)
  · rw [if_pos ht0] at h
    refine pw_iload_n 0 (px_at td_Pl_find 12 rfl) rfl rfl ?_
    obtain rfl := Option.some.inj h
    exact pw_iret (px_at td_Pl_find 13 rfl) rfl (Nat.le_refl 0) (Nat.le_refl 0) hR
  · rw [if_neg (by rw [ht1]; decide)] at h
    refine pw_iconst (v := (-1)) (px_at td_Pl_find 16 rfl) (by decide) ?_
    obtain rfl := Option.some.inj h
    exact pw_iret (px_at td_Pl_find 17 rfl) rfl (Nat.le_refl 0) (Nat.le_refl 0) hR
theorem k_Pl_find {l : Launch} {ids : List pxI} {σ : pxS} {p0 : Int32} {v1 : Int32} {res : Int32} (h : F_Pl_find σ p0 v1 = some res) : pm l y_Pl_find c_Pl_find 3 (some .int) (px_R 1) [.inr (some (1, p0.toNatClampNeg, 0)), .inl v1] ids cG σ (px_r (some (.inl res)) ids cG σ) :=
  pm_ofF (by decide +kernel) (Nat.le_of_ble_eq_true rfl) (e_Pl_find h ⟨rfl, rfl, rfl, rfl⟩)
/-! Pl_addNeed -/
def F_Pl_addNeed (σ : pxS) (p0 : Int32) (v1 : Int32) (v2 : Int32) : Option (pxS) :=
  (if v1 < 0 then some σ else (if (σ (1, p0.toNatClampNeg, 0) 0) ≤ v1 then some σ else (if 20 ≤ (σ (1, p0.toNatClampNeg, 0) 1) then some σ else px_gd v1 12 (px_gd v1 12 (px_l (px_up σ (8, p0.toNatClampNeg, 7) v1.toNatClampNeg ((σ (8, p0.toNatClampNeg, 7) v1.toNatClampNeg) ||| (1 <<< (v2 &&& 31)))) fun σ3 =>
  px_l (px_up σ3 (1, p0.toNatClampNeg, 0) 1 ((σ3 (1, p0.toNatClampNeg, 0) 1) + 1)) fun σ4 =>
  some σ4)))))
set_option maxRecDepth 100000 in
theorem e_Pl_addNeed {l : Launch} {ids : List pxI} {Rt : Option pxV → List pxI → pxG → pxS → Prop} {σ : pxS} {p0 : Int32} {v1 : Int32} {v2 : Int32} {res : pxS} (h : F_Pl_addNeed σ p0 v1 v2 = some res) (hR : Rt none ids cG res) : pw l (px_R 1) y_Pl_addNeed c_Pl_addNeed 3 none 0 [(0, .inr (some (1, p0.toNatClampNeg, 0))), (1, .inl v1), (2, .inl v2)] [] ids cG σ 0 0 Rt := by
  unfold F_Pl_addNeed at h
  refine pw_iload_n 1 (px_at td_Pl_addNeed 0 rfl) rfl rfl ?_
  rcases px_ite h with ⟨hc7, h⟩ | ⟨hc7, h⟩
  · refine pw_if_lt 43 (px_at td_Pl_addNeed 1 rfl) (by decide) (fun _ => ?_) (fun hn => absurd hc7 hn)
    obtain rfl := Option.some.inj h
    exact pw_vret (px_at td_Pl_addNeed 26 rfl) rfl (Nat.le_refl 0) (Nat.le_refl 0) hR
  · refine pw_if_lt 43 (px_at td_Pl_addNeed 1 rfl) (by decide) (fun hn => absurd hn hc7) (fun _ => ?_)
    refine pw_iload_n 1 (px_at td_Pl_addNeed 2 rfl) rfl rfl ?_
    refine pw_aload_n 0 (px_at td_Pl_addNeed 3 rfl) rfl rfl ?_
    refine pw_getf (v := .inl (σ (1, p0.toNatClampNeg, 0) 0)) (px_at td_Pl_addNeed 4 rfl) lf_Pl_57 rfl rfl rfl ?_
    rcases px_ite h with ⟨hc6, h⟩ | ⟨hc6, h⟩
    · refine pw_icmp_ge 43 (px_at td_Pl_addNeed 5 rfl) (by decide) (fun _ => ?_) (fun hn => absurd hc6 hn)
      obtain rfl := Option.some.inj h
      exact pw_vret (px_at td_Pl_addNeed 26 rfl) rfl (Nat.le_refl 0) (Nat.le_refl 0) hR
    · refine pw_icmp_ge 43 (px_at td_Pl_addNeed 5 rfl) (by decide) (fun hn => absurd hn hc6) (fun _ => ?_)
      refine pw_aload_n 0 (px_at td_Pl_addNeed 6 rfl) rfl rfl ?_
      refine pw_getf (v := .inl (σ (1, p0.toNatClampNeg, 0) 1)) (px_at td_Pl_addNeed 7 rfl) lf_Pl_61 rfl rfl rfl ?_
      refine pw_bipush (v := 20) (px_at td_Pl_addNeed 8 rfl) (by decide) ?_
      rcases px_ite h with ⟨hc5, h⟩ | ⟨hc5, h⟩
      · refine pw_icmp_ge 43 (px_at td_Pl_addNeed 9 rfl) (by decide) (fun _ => ?_) (fun hn => absurd hc5 hn)
        obtain rfl := Option.some.inj h
        exact pw_vret (px_at td_Pl_addNeed 26 rfl) rfl (Nat.le_refl 0) (Nat.le_refl 0) hR
      · refine pw_icmp_ge 43 (px_at td_Pl_addNeed 9 rfl) (by decide) (fun hn => absurd hn hc5) (fun _ => ?_)
        refine pw_aload_n 0 (px_at td_Pl_addNeed 10 rfl) rfl rfl ?_
        refine pw_getf (v := .inr (some (8, p0.toNatClampNeg, 7))) (px_at td_Pl_addNeed 11 rfl) lf_Pl_33 rfl rfl rfl ?_
        refine pw_iload_n 1 (px_at td_Pl_addNeed 12 rfl) rfl rfl ?_
        refine pw_dup2 (px_at td_Pl_addNeed 13 rfl) ?_
        obtain ⟨hi1, h⟩ := px_gd_e h
        refine pw_ial (px_at td_Pl_addNeed 14 rfl) rfl hi1 rfl ?_
        refine pw_iconst (v := 1) (px_at td_Pl_addNeed 15 rfl) (by decide) ?_
        refine pw_iload_n 2 (px_at td_Pl_addNeed 16 rfl) rfl rfl ?_
        refine pw_ishl (px_at td_Pl_addNeed 17 rfl) ?_
        refine pw_ior (px_at td_Pl_addNeed 18 rfl) ?_
        obtain ⟨hi2, h⟩ := px_gd_e h
        obtain ⟨σ3, hσ3, h⟩ := px_l_e h
        refine pw_ias (px_at td_Pl_addNeed 19 rfl) rfl hi2 rfl hσ3 ?_
        refine pw_aload_n 0 (px_at td_Pl_addNeed 20 rfl) rfl rfl ?_
        refine pw_dup (px_at td_Pl_addNeed 21 rfl) ?_
        refine pw_getf (v := .inl (σ3 (1, p0.toNatClampNeg, 0) 1)) (px_at td_Pl_addNeed 22 rfl) lf_Pl_61 rfl rfl rfl ?_
        refine pw_iconst (v := 1) (px_at td_Pl_addNeed 23 rfl) (by decide) ?_
        refine pw_iadd (px_at td_Pl_addNeed 24 rfl) ?_
        obtain ⟨σ4, hσ4, h⟩ := px_l_e h
        refine pw_puti (px_at td_Pl_addNeed 25 rfl) lw_Pl_61 rfl rfl (pw_s hσ4 ?_)
        obtain rfl := Option.some.inj h
        exact pw_vret (px_at td_Pl_addNeed 26 rfl) rfl (Nat.le_refl 0) (Nat.le_refl 0) hR
theorem k_Pl_addNeed {l : Launch} {ids : List pxI} {σ : pxS} {p0 : Int32} {v1 : Int32} {v2 : Int32} {res : pxS} (h : F_Pl_addNeed σ p0 v1 v2 = some res) : pm l y_Pl_addNeed c_Pl_addNeed 3 none (px_R 1) [.inr (some (1, p0.toNatClampNeg, 0)), .inl v1, .inl v2] ids cG σ (px_r none ids cG res) :=
  pm_ofF (by decide +kernel) (Nat.le_of_ble_eq_true rfl) (e_Pl_addNeed h ⟨rfl, rfl, rfl, rfl⟩)
/-! Pl_addStep -/
def F_Pl_addStep (σ : pxS) (p0 : Int32) (v1 : Int32) (v2 : Int32) (v3 : Int32) : Option (pxS) :=
  (if 24 ≤ (σ (1, p0.toNatClampNeg, 0) 2) then some σ else px_gd (σ (1, p0.toNatClampNeg, 0) 2) 24 (px_l (px_up σ (8, p0.toNatClampNeg, 11) (σ (1, p0.toNatClampNeg, 0) 2).toNatClampNeg v1) fun σ2 =>
  px_gd (σ2 (1, p0.toNatClampNeg, 0) 2) 24 (px_l (px_up σ2 (8, p0.toNatClampNeg, 12) (σ2 (1, p0.toNatClampNeg, 0) 2).toNatClampNeg v2) fun σ4 =>
  px_gd (σ4 (1, p0.toNatClampNeg, 0) 2) 24 (px_l (px_up σ4 (8, p0.toNatClampNeg, 13) (σ4 (1, p0.toNatClampNeg, 0) 2).toNatClampNeg v3) fun σ6 =>
  px_l (px_up σ6 (1, p0.toNatClampNeg, 0) 2 ((σ6 (1, p0.toNatClampNeg, 0) 2) + 1)) fun σ7 =>
  some σ7))))
set_option maxRecDepth 100000 in
theorem e_Pl_addStep {l : Launch} {ids : List pxI} {Rt : Option pxV → List pxI → pxG → pxS → Prop} {σ : pxS} {p0 : Int32} {v1 : Int32} {v2 : Int32} {v3 : Int32} {res : pxS} (h : F_Pl_addStep σ p0 v1 v2 v3 = some res) (hR : Rt none ids cG res) : pw l (px_R 1) y_Pl_addStep c_Pl_addStep 4 none 0 [(0, .inr (some (1, p0.toNatClampNeg, 0))), (1, .inl v1), (2, .inl v2), (3, .inl v3)] [] ids cG σ 0 0 Rt := by
  unfold F_Pl_addStep at h
  refine pw_aload_n 0 (px_at td_Pl_addStep 0 rfl) rfl rfl ?_
  refine pw_getf (v := .inl (σ (1, p0.toNatClampNeg, 0) 2)) (px_at td_Pl_addStep 1 rfl) lf_Pl_64 rfl rfl rfl ?_
  refine pw_bipush (v := 24) (px_at td_Pl_addStep 2 rfl) (by decide) ?_
  rcases px_ite h with ⟨hc8, h⟩ | ⟨hc8, h⟩
  · refine pw_icmp_ge 49 (px_at td_Pl_addStep 3 rfl) (by decide) (fun _ => ?_) (fun hn => absurd hc8 hn)
    obtain rfl := Option.some.inj h
    exact pw_vret (px_at td_Pl_addStep 28 rfl) rfl (Nat.le_refl 0) (Nat.le_refl 0) hR
  · refine pw_icmp_ge 49 (px_at td_Pl_addStep 3 rfl) (by decide) (fun hn => absurd hn hc8) (fun _ => ?_)
    refine pw_aload_n 0 (px_at td_Pl_addStep 4 rfl) rfl rfl ?_
    refine pw_getf (v := .inr (some (8, p0.toNatClampNeg, 11))) (px_at td_Pl_addStep 5 rfl) lf_Pl_45 rfl rfl rfl ?_
    refine pw_aload_n 0 (px_at td_Pl_addStep 6 rfl) rfl rfl ?_
    refine pw_getf (v := .inl (σ (1, p0.toNatClampNeg, 0) 2)) (px_at td_Pl_addStep 7 rfl) lf_Pl_64 rfl rfl rfl ?_
    refine pw_iload_n 1 (px_at td_Pl_addStep 8 rfl) rfl rfl ?_
    obtain ⟨hi1, h⟩ := px_gd_e h
    obtain ⟨σ2, hσ2, h⟩ := px_l_e h
    refine pw_ias (px_at td_Pl_addStep 9 rfl) rfl hi1 rfl hσ2 ?_
    refine pw_aload_n 0 (px_at td_Pl_addStep 10 rfl) rfl rfl ?_
    refine pw_getf (v := .inr (some (8, p0.toNatClampNeg, 12))) (px_at td_Pl_addStep 11 rfl) lf_Pl_48 rfl rfl rfl ?_
    refine pw_aload_n 0 (px_at td_Pl_addStep 12 rfl) rfl rfl ?_
    refine pw_getf (v := .inl (σ2 (1, p0.toNatClampNeg, 0) 2)) (px_at td_Pl_addStep 13 rfl) lf_Pl_64 rfl rfl rfl ?_
    refine pw_iload_n 2 (px_at td_Pl_addStep 14 rfl) rfl rfl ?_
    obtain ⟨hi3, h⟩ := px_gd_e h
    obtain ⟨σ4, hσ4, h⟩ := px_l_e h
    refine pw_ias (px_at td_Pl_addStep 15 rfl) rfl hi3 rfl hσ4 ?_
    refine pw_aload_n 0 (px_at td_Pl_addStep 16 rfl) rfl rfl ?_
    refine pw_getf (v := .inr (some (8, p0.toNatClampNeg, 13))) (px_at td_Pl_addStep 17 rfl) lf_Pl_51 rfl rfl rfl ?_
    refine pw_aload_n 0 (px_at td_Pl_addStep 18 rfl) rfl rfl ?_
    refine pw_getf (v := .inl (σ4 (1, p0.toNatClampNeg, 0) 2)) (px_at td_Pl_addStep 19 rfl) lf_Pl_64 rfl rfl rfl ?_
    refine pw_iload_n 3 (px_at td_Pl_addStep 20 rfl) rfl rfl ?_
    obtain ⟨hi5, h⟩ := px_gd_e h
    obtain ⟨σ6, hσ6, h⟩ := px_l_e h
    refine pw_ias (px_at td_Pl_addStep 21 rfl) rfl hi5 rfl hσ6 ?_
    refine pw_aload_n 0 (px_at td_Pl_addStep 22 rfl) rfl rfl ?_
    refine pw_dup (px_at td_Pl_addStep 23 rfl) ?_
    refine pw_getf (v := .inl (σ6 (1, p0.toNatClampNeg, 0) 2)) (px_at td_Pl_addStep 24 rfl) lf_Pl_64 rfl rfl rfl ?_
    refine pw_iconst (v := 1) (px_at td_Pl_addStep 25 rfl) (by decide) ?_
    refine pw_iadd (px_at td_Pl_addStep 26 rfl) ?_
    obtain ⟨σ7, hσ7, h⟩ := px_l_e h
    refine pw_puti (px_at td_Pl_addStep 27 rfl) lw_Pl_64 rfl rfl (pw_s hσ7 ?_)
    obtain rfl := Option.some.inj h
    exact pw_vret (px_at td_Pl_addStep 28 rfl) rfl (Nat.le_refl 0) (Nat.le_refl 0) hR
theorem k_Pl_addStep {l : Launch} {ids : List pxI} {σ : pxS} {p0 : Int32} {v1 : Int32} {v2 : Int32} {v3 : Int32} {res : pxS} (h : F_Pl_addStep σ p0 v1 v2 v3 = some res) : pm l y_Pl_addStep c_Pl_addStep 4 none (px_R 1) [.inr (some (1, p0.toNatClampNeg, 0)), .inl v1, .inl v2, .inl v3] ids cG σ (px_r none ids cG res) :=
  pm_ofF (by decide +kernel) (Nat.le_of_ble_eq_true rfl) (e_Pl_addStep h ⟨rfl, rfl, rfl, rfl⟩)
/-! Pl_tieTogether -/
def Pl_tieTogether_n2 (σ : pxS) (p0 : Int32) (v1 : Int32) : Option ((Int32 × pxS) ⊕ (pxS)) :=
  (if (σ (1, p0.toNatClampNeg, 0) 0) ≤ v1 then some (.inr σ) else px_gd v1 12 (px_gd v1 12 ((if (σ (8, p0.toNatClampNeg, 1) v1.toNatClampNeg) < 0 then px_gd v1 12 (px_l (px_up σ (8, p0.toNatClampNeg, 8) v1.toNatClampNeg ((σ (8, p0.toNatClampNeg, 7) v1.toNatClampNeg) ||| 0)) fun σ4 =>
  px_gd v1 12 (px_gd v1 12 (px_l (px_up σ4 (8, p0.toNatClampNeg, 9) v1.toNatClampNeg (σ4 (8, p0.toNatClampNeg, 8) v1.toNatClampNeg)) fun σ7 =>
  px_gd v1 12 (px_l (px_up σ7 (8, p0.toNatClampNeg, 10) v1.toNatClampNeg 0) fun σ9 =>
  some (.inl ((v1 + 1), σ9)))))) else px_gd v1 12 (px_gd v1 12 (px_l (px_up σ (8, p0.toNatClampNeg, 8) v1.toNatClampNeg ((σ (8, p0.toNatClampNeg, 7) v1.toNatClampNeg) ||| (1 <<< ((σ (8, p0.toNatClampNeg, 1) v1.toNatClampNeg) &&& 31)))) fun σ12 =>
  px_gd v1 12 (px_gd v1 12 (px_l (px_up σ12 (8, p0.toNatClampNeg, 9) v1.toNatClampNeg (σ12 (8, p0.toNatClampNeg, 8) v1.toNatClampNeg)) fun σ15 =>
  px_gd v1 12 (px_l (px_up σ15 (8, p0.toNatClampNeg, 10) v1.toNatClampNeg 0) fun σ17 =>
  some (.inl ((v1 + 1), σ17)))))))))))
set_option maxRecDepth 100000 in
theorem Pl_tieTogether_n2_l {l : Launch} {ids : List pxI} {Rt : Option pxV → List pxI → pxG → pxS → Prop} {σ : pxS} {p0 : Int32} {v1 : Int32} {o : (Int32 × pxS) ⊕ (pxS)} (h : Pl_tieTogether_n2 σ p0 v1 = some o) (hC : ∀ s, o = .inl s → pw l (px_R 1) y_Pl_tieTogether c_Pl_tieTogether 3 none 2 [(0, .inr (some (1, p0.toNatClampNeg, 0))), (1, .inl s.1)] [] ids cG s.2 0 0 Rt) (hX0 : ∀ e, o = .inr e → pw l (px_R 1) y_Pl_tieTogether c_Pl_tieTogether 3 none 69 [(0, .inr (some (1, p0.toNatClampNeg, 0)))] [] ids cG e 0 0 Rt) : pw l (px_R 1) y_Pl_tieTogether c_Pl_tieTogether 3 none 2 [(0, .inr (some (1, p0.toNatClampNeg, 0))), (1, .inl v1)] [] ids cG σ 0 0 Rt := by
  unfold Pl_tieTogether_n2 at h
  refine pw_iload_n 1 (px_at td_Pl_tieTogether 2 rfl) rfl rfl ?_
  refine pw_aload_n 0 (px_at td_Pl_tieTogether 3 rfl) rfl rfl ?_
  refine pw_getf (v := .inl (σ (1, p0.toNatClampNeg, 0) 0)) (px_at td_Pl_tieTogether 4 rfl) lf_Pl_57 rfl rfl rfl ?_
  rcases px_ite h with ⟨hc19, h⟩ | ⟨hc19, h⟩
  · refine pw_icmp_ge 69 (px_at td_Pl_tieTogether 5 rfl) (by decide) (fun _ => ?_) (fun hn => absurd hc19 hn)
    refine pw_L [(0, .inr (some (1, p0.toNatClampNeg, 0)))] [0] rfl ?_
    exact hX0 σ (Option.some.inj h).symm
  · refine pw_icmp_ge 69 (px_at td_Pl_tieTogether 5 rfl) (by decide) (fun hn => absurd hn hc19) (fun _ => ?_)
    refine pw_aload_n 0 (px_at td_Pl_tieTogether 6 rfl) rfl rfl ?_
    refine pw_getf (v := .inr (some (8, p0.toNatClampNeg, 8))) (px_at td_Pl_tieTogether 7 rfl) lf_Pl_36 rfl rfl rfl ?_
    refine pw_iload_n 1 (px_at td_Pl_tieTogether 8 rfl) rfl rfl ?_
    refine pw_aload_n 0 (px_at td_Pl_tieTogether 9 rfl) rfl rfl ?_
    refine pw_getf (v := .inr (some (8, p0.toNatClampNeg, 7))) (px_at td_Pl_tieTogether 10 rfl) lf_Pl_33 rfl rfl rfl ?_
    refine pw_iload_n 1 (px_at td_Pl_tieTogether 11 rfl) rfl rfl ?_
    obtain ⟨hi1, h⟩ := px_gd_e h
    refine pw_ial (px_at td_Pl_tieTogether 12 rfl) rfl hi1 rfl ?_
    refine pw_aload_n 0 (px_at td_Pl_tieTogether 13 rfl) rfl rfl ?_
    refine pw_getf (v := .inr (some (8, p0.toNatClampNeg, 1))) (px_at td_Pl_tieTogether 14 rfl) lf_Pl_15 rfl rfl rfl ?_
    refine pw_iload_n 1 (px_at td_Pl_tieTogether 15 rfl) rfl rfl ?_
    obtain ⟨hi2, h⟩ := px_gd_e h
    refine pw_ial (px_at td_Pl_tieTogether 16 rfl) rfl hi2 rfl ?_
    rcases px_ite h with ⟨hc18, h⟩ | ⟨hc18, h⟩
    · refine pw_if_lt 41 (px_at td_Pl_tieTogether 17 rfl) (by decide) (fun _ => ?_) (fun hn => absurd hc18 hn)
      refine pw_iconst (v := 0) (px_at td_Pl_tieTogether 25 rfl) (by decide) ?_
      refine pw_ior (px_at td_Pl_tieTogether 26 rfl) ?_
      obtain ⟨hi3, h⟩ := px_gd_e h
      obtain ⟨σ4, hσ4, h⟩ := px_l_e h
      refine pw_ias (px_at td_Pl_tieTogether 27 rfl) rfl hi3 rfl hσ4 ?_
      refine pw_aload_n 0 (px_at td_Pl_tieTogether 28 rfl) rfl rfl ?_
      refine pw_getf (v := .inr (some (8, p0.toNatClampNeg, 9))) (px_at td_Pl_tieTogether 29 rfl) lf_Pl_39 rfl rfl rfl ?_
      refine pw_iload_n 1 (px_at td_Pl_tieTogether 30 rfl) rfl rfl ?_
      refine pw_aload_n 0 (px_at td_Pl_tieTogether 31 rfl) rfl rfl ?_
      refine pw_getf (v := .inr (some (8, p0.toNatClampNeg, 8))) (px_at td_Pl_tieTogether 32 rfl) lf_Pl_36 rfl rfl rfl ?_
      refine pw_iload_n 1 (px_at td_Pl_tieTogether 33 rfl) rfl rfl ?_
      obtain ⟨hi5, h⟩ := px_gd_e h
      refine pw_ial (px_at td_Pl_tieTogether 34 rfl) rfl hi5 rfl ?_
      obtain ⟨hi6, h⟩ := px_gd_e h
      obtain ⟨σ7, hσ7, h⟩ := px_l_e h
      refine pw_ias (px_at td_Pl_tieTogether 35 rfl) rfl hi6 rfl hσ7 ?_
      refine pw_aload_n 0 (px_at td_Pl_tieTogether 36 rfl) rfl rfl ?_
      refine pw_getf (v := .inr (some (8, p0.toNatClampNeg, 10))) (px_at td_Pl_tieTogether 37 rfl) lf_Pl_42 rfl rfl rfl ?_
      refine pw_iload_n 1 (px_at td_Pl_tieTogether 38 rfl) rfl rfl ?_
      refine pw_iconst (v := 0) (px_at td_Pl_tieTogether 39 rfl) (by decide) ?_
      obtain ⟨hi8, h⟩ := px_gd_e h
      obtain ⟨σ9, hσ9, h⟩ := px_l_e h
      refine pw_ias (px_at td_Pl_tieTogether 40 rfl) rfl hi8 rfl hσ9 ?_
      refine pw_iinc (q := 1) (v := (v1 + 1)) (L' := [(1, .inl (v1 + 1)), (0, .inr (some (1, p0.toNatClampNeg, 0)))]) (px_at td_Pl_tieTogether 41 rfl) rfl rfl (by decide) rfl ?_
      refine pw_goto 2 (px_at td_Pl_tieTogether 42 rfl) (by decide) ?_
      refine pw_L [(0, .inr (some (1, p0.toNatClampNeg, 0))), (1, .inl (v1 + 1))] [1, 0] rfl ?_
      exact hC ((v1 + 1), σ9) (Option.some.inj h).symm
    · refine pw_if_lt 41 (px_at td_Pl_tieTogether 17 rfl) (by decide) (fun hn => absurd hn hc18) (fun _ => ?_)
      refine pw_iconst (v := 1) (px_at td_Pl_tieTogether 18 rfl) (by decide) ?_
      refine pw_aload_n 0 (px_at td_Pl_tieTogether 19 rfl) rfl rfl ?_
      refine pw_getf (v := .inr (some (8, p0.toNatClampNeg, 1))) (px_at td_Pl_tieTogether 20 rfl) lf_Pl_15 rfl rfl rfl ?_
      refine pw_iload_n 1 (px_at td_Pl_tieTogether 21 rfl) rfl rfl ?_
      obtain ⟨hi10, h⟩ := px_gd_e h
      refine pw_ial (px_at td_Pl_tieTogether 22 rfl) rfl hi10 rfl ?_
      refine pw_ishl (px_at td_Pl_tieTogether 23 rfl) ?_
      refine pw_goto 42 (px_at td_Pl_tieTogether 24 rfl) (by decide) ?_
      refine pw_ior (px_at td_Pl_tieTogether 26 rfl) ?_
      obtain ⟨hi11, h⟩ := px_gd_e h
      obtain ⟨σ12, hσ12, h⟩ := px_l_e h
      refine pw_ias (px_at td_Pl_tieTogether 27 rfl) rfl hi11 rfl hσ12 ?_
      refine pw_aload_n 0 (px_at td_Pl_tieTogether 28 rfl) rfl rfl ?_
      refine pw_getf (v := .inr (some (8, p0.toNatClampNeg, 9))) (px_at td_Pl_tieTogether 29 rfl) lf_Pl_39 rfl rfl rfl ?_
      refine pw_iload_n 1 (px_at td_Pl_tieTogether 30 rfl) rfl rfl ?_
      refine pw_aload_n 0 (px_at td_Pl_tieTogether 31 rfl) rfl rfl ?_
      refine pw_getf (v := .inr (some (8, p0.toNatClampNeg, 8))) (px_at td_Pl_tieTogether 32 rfl) lf_Pl_36 rfl rfl rfl ?_
      refine pw_iload_n 1 (px_at td_Pl_tieTogether 33 rfl) rfl rfl ?_
      obtain ⟨hi13, h⟩ := px_gd_e h
      refine pw_ial (px_at td_Pl_tieTogether 34 rfl) rfl hi13 rfl ?_
      obtain ⟨hi14, h⟩ := px_gd_e h
      obtain ⟨σ15, hσ15, h⟩ := px_l_e h
      refine pw_ias (px_at td_Pl_tieTogether 35 rfl) rfl hi14 rfl hσ15 ?_
      refine pw_aload_n 0 (px_at td_Pl_tieTogether 36 rfl) rfl rfl ?_
      refine pw_getf (v := .inr (some (8, p0.toNatClampNeg, 10))) (px_at td_Pl_tieTogether 37 rfl) lf_Pl_42 rfl rfl rfl ?_
      refine pw_iload_n 1 (px_at td_Pl_tieTogether 38 rfl) rfl rfl ?_
      refine pw_iconst (v := 0) (px_at td_Pl_tieTogether 39 rfl) (by decide) ?_
      obtain ⟨hi16, h⟩ := px_gd_e h
      obtain ⟨σ17, hσ17, h⟩ := px_l_e h
      refine pw_ias (px_at td_Pl_tieTogether 40 rfl) rfl hi16 rfl hσ17 ?_
      refine pw_iinc (q := 1) (v := (v1 + 1)) (L' := [(1, .inl (v1 + 1)), (0, .inr (some (1, p0.toNatClampNeg, 0)))]) (px_at td_Pl_tieTogether 41 rfl) rfl rfl (by decide) rfl ?_
      refine pw_goto 2 (px_at td_Pl_tieTogether 42 rfl) (by decide) ?_
      refine pw_L [(0, .inr (some (1, p0.toNatClampNeg, 0))), (1, .inl (v1 + 1))] [1, 0] rfl ?_
      exact hC ((v1 + 1), σ17) (Option.some.inj h).symm
def Pl_tieTogether_L2 (p0 : Int32) : (Int32 × pxS) → Option ((Int32 × pxS) ⊕ (pxS)) := fun s => Pl_tieTogether_n2 s.2 p0 s.1
set_option maxRecDepth 100000 in
theorem Pl_tieTogether_L2_l {l : Launch} {ids : List pxI} {Rt : Option pxV → List pxI → pxG → pxS → Prop} {p0 : Int32} {n : Nat} {s : Int32 × pxS} {e : pxS} (h : px_it (Pl_tieTogether_L2 p0) n s = some e) (hX0 : pw l (px_R 1) y_Pl_tieTogether c_Pl_tieTogether 3 none 69 [(0, .inr (some (1, p0.toNatClampNeg, 0)))] [] ids cG e 0 0 Rt) : pw l (px_R 1) y_Pl_tieTogether c_Pl_tieTogether 3 none 2 [(0, .inr (some (1, p0.toNatClampNeg, 0))), (1, .inl s.1)] [] ids cG s.2 0 0 Rt := by
  refine px_it_rule (f := Pl_tieTogether_L2 p0) (C := fun s => pw l (px_R 1) y_Pl_tieTogether c_Pl_tieTogether 3 none 2 [(0, .inr (some (1, p0.toNatClampNeg, 0))), (1, .inl s.1)] [] ids cG s.2 0 0 Rt) (X := fun e => (pw l (px_R 1) y_Pl_tieTogether c_Pl_tieTogether 3 none 69 [(0, .inr (some (1, p0.toNatClampNeg, 0)))] [] ids cG e 0 0 Rt)) ?_ ?_ n s e h hX0
  · intro s s1 hf hC
    exact Pl_tieTogether_n2_l hf (fun s2 hs => by cases hs; exact hC) (fun e he => by cases he)
  · intro s e hf hX
    exact Pl_tieTogether_n2_l hf (fun s2 hs => by cases hs) (fun e1 he => by cases he; exact hX)
def Pl_tieTogether_n117 (σ : pxS) (p0 : Int32) (v1 : Int32) (v2 : Int32) : Option ((Int32 × pxS) ⊕ (pxS)) :=
  some (.inl ((v2 + 1), σ))
set_option maxRecDepth 100000 in
theorem Pl_tieTogether_n117_l {l : Launch} {ids : List pxI} {Rt : Option pxV → List pxI → pxG → pxS → Prop} {σ : pxS} {p0 : Int32} {v1 : Int32} {v2 : Int32} {o : (Int32 × pxS) ⊕ (pxS)} (h : Pl_tieTogether_n117 σ p0 v1 v2 = some o) (hC : ∀ s, o = .inl s → pw l (px_R 1) y_Pl_tieTogether c_Pl_tieTogether 3 none 81 [(0, .inr (some (1, p0.toNatClampNeg, 0))), (1, .inl v1), (2, .inl s.1)] [] ids cG s.2 0 0 Rt) (hX0 : ∀ e, o = .inr e → pw l (px_R 1) y_Pl_tieTogether c_Pl_tieTogether 3 none 123 [(0, .inr (some (1, p0.toNatClampNeg, 0))), (1, .inl v1)] [] ids cG e 0 0 Rt) : pw l (px_R 1) y_Pl_tieTogether c_Pl_tieTogether 3 none 117 [(0, .inr (some (1, p0.toNatClampNeg, 0))), (1, .inl v1), (2, .inl v2)] [] ids cG σ 0 0 Rt := by
  unfold Pl_tieTogether_n117 at h
  refine pw_iinc (q := 2) (v := (v2 + 1)) (L' := [(2, .inl (v2 + 1)), (0, .inr (some (1, p0.toNatClampNeg, 0))), (1, .inl v1)]) (px_at td_Pl_tieTogether 75 rfl) rfl rfl (by decide) rfl ?_
  refine pw_goto 81 (px_at td_Pl_tieTogether 76 rfl) (by decide) ?_
  refine pw_L [(0, .inr (some (1, p0.toNatClampNeg, 0))), (1, .inl v1), (2, .inl (v2 + 1))] [1, 2, 0] rfl ?_
  exact hC ((v2 + 1), σ) (Option.some.inj h).symm
def Pl_tieTogether_n81 (σ : pxS) (p0 : Int32) (v1 : Int32) (v2 : Int32) : Option ((Int32 × pxS) ⊕ (pxS)) :=
  (if (σ (1, p0.toNatClampNeg, 0) 0) ≤ v2 then some (.inr σ) else px_gd v2 12 ((if (((σ (8, p0.toNatClampNeg, 9) v2.toNatClampNeg) >>> (v1 &&& 31)) &&& 1) = 0 then Pl_tieTogether_n117 σ p0 v1 v2 else px_gd v2 12 (px_gd v1 12 (px_gd v2 12 (px_l (px_up σ (8, p0.toNatClampNeg, 9) v2.toNatClampNeg ((σ (8, p0.toNatClampNeg, 9) v2.toNatClampNeg) ||| (σ (8, p0.toNatClampNeg, 9) v1.toNatClampNeg))) fun σ25 =>
  Pl_tieTogether_n117 σ25 p0 v1 v2))))))
set_option maxRecDepth 100000 in
theorem Pl_tieTogether_n81_l {l : Launch} {ids : List pxI} {Rt : Option pxV → List pxI → pxG → pxS → Prop} {σ : pxS} {p0 : Int32} {v1 : Int32} {v2 : Int32} {o : (Int32 × pxS) ⊕ (pxS)} (h : Pl_tieTogether_n81 σ p0 v1 v2 = some o) (hC : ∀ s, o = .inl s → pw l (px_R 1) y_Pl_tieTogether c_Pl_tieTogether 3 none 81 [(0, .inr (some (1, p0.toNatClampNeg, 0))), (1, .inl v1), (2, .inl s.1)] [] ids cG s.2 0 0 Rt) (hX0 : ∀ e, o = .inr e → pw l (px_R 1) y_Pl_tieTogether c_Pl_tieTogether 3 none 123 [(0, .inr (some (1, p0.toNatClampNeg, 0))), (1, .inl v1)] [] ids cG e 0 0 Rt) : pw l (px_R 1) y_Pl_tieTogether c_Pl_tieTogether 3 none 81 [(0, .inr (some (1, p0.toNatClampNeg, 0))), (1, .inl v1), (2, .inl v2)] [] ids cG σ 0 0 Rt := by
  unfold Pl_tieTogether_n81 at h
  refine pw_iload_n 2 (px_at td_Pl_tieTogether 51 rfl) rfl rfl ?_
  refine pw_aload_n 0 (px_at td_Pl_tieTogether 52 rfl) rfl rfl ?_
  refine pw_getf (v := .inl (σ (1, p0.toNatClampNeg, 0) 0)) (px_at td_Pl_tieTogether 53 rfl) lf_Pl_57 rfl rfl rfl ?_
  rcases px_ite h with ⟨hc27, h⟩ | ⟨hc27, h⟩
  · refine pw_icmp_ge 123 (px_at td_Pl_tieTogether 54 rfl) (by decide) (fun _ => ?_) (fun hn => absurd hc27 hn)
    refine pw_L [(0, .inr (some (1, p0.toNatClampNeg, 0))), (1, .inl v1)] [0, 1] rfl ?_
    exact hX0 σ (Option.some.inj h).symm
  · refine pw_icmp_ge 123 (px_at td_Pl_tieTogether 54 rfl) (by decide) (fun hn => absurd hn hc27) (fun _ => ?_)
    refine pw_aload_n 0 (px_at td_Pl_tieTogether 55 rfl) rfl rfl ?_
    refine pw_getf (v := .inr (some (8, p0.toNatClampNeg, 9))) (px_at td_Pl_tieTogether 56 rfl) lf_Pl_39 rfl rfl rfl ?_
    refine pw_iload_n 2 (px_at td_Pl_tieTogether 57 rfl) rfl rfl ?_
    obtain ⟨hi21, h⟩ := px_gd_e h
    refine pw_ial (px_at td_Pl_tieTogether 58 rfl) rfl hi21 rfl ?_
    refine pw_iload_n 1 (px_at td_Pl_tieTogether 59 rfl) rfl rfl ?_
    refine pw_ishr (px_at td_Pl_tieTogether 60 rfl) ?_
    refine pw_iconst (v := 1) (px_at td_Pl_tieTogether 61 rfl) (by decide) ?_
    refine pw_iand (px_at td_Pl_tieTogether 62 rfl) ?_
    rcases px_ite h with ⟨hc26, h⟩ | ⟨hc26, h⟩
    · refine pw_if_eq 117 (px_at td_Pl_tieTogether 63 rfl) (by decide) (fun _ => ?_) (fun hn => absurd hc26 hn)
      exact Pl_tieTogether_n117_l h hC hX0
    · refine pw_if_eq 117 (px_at td_Pl_tieTogether 63 rfl) (by decide) (fun hn => absurd hn hc26) (fun _ => ?_)
      refine pw_aload_n 0 (px_at td_Pl_tieTogether 64 rfl) rfl rfl ?_
      refine pw_getf (v := .inr (some (8, p0.toNatClampNeg, 9))) (px_at td_Pl_tieTogether 65 rfl) lf_Pl_39 rfl rfl rfl ?_
      refine pw_iload_n 2 (px_at td_Pl_tieTogether 66 rfl) rfl rfl ?_
      refine pw_dup2 (px_at td_Pl_tieTogether 67 rfl) ?_
      obtain ⟨hi22, h⟩ := px_gd_e h
      refine pw_ial (px_at td_Pl_tieTogether 68 rfl) rfl hi22 rfl ?_
      refine pw_aload_n 0 (px_at td_Pl_tieTogether 69 rfl) rfl rfl ?_
      refine pw_getf (v := .inr (some (8, p0.toNatClampNeg, 9))) (px_at td_Pl_tieTogether 70 rfl) lf_Pl_39 rfl rfl rfl ?_
      refine pw_iload_n 1 (px_at td_Pl_tieTogether 71 rfl) rfl rfl ?_
      obtain ⟨hi23, h⟩ := px_gd_e h
      refine pw_ial (px_at td_Pl_tieTogether 72 rfl) rfl hi23 rfl ?_
      refine pw_ior (px_at td_Pl_tieTogether 73 rfl) ?_
      obtain ⟨hi24, h⟩ := px_gd_e h
      obtain ⟨σ25, hσ25, h⟩ := px_l_e h
      refine pw_ias (px_at td_Pl_tieTogether 74 rfl) rfl hi24 rfl hσ25 ?_
      exact Pl_tieTogether_n117_l h hC hX0
def Pl_tieTogether_L81 (p0 : Int32) (v1 : Int32) : (Int32 × pxS) → Option ((Int32 × pxS) ⊕ (pxS)) := fun s => Pl_tieTogether_n81 s.2 p0 v1 s.1
set_option maxRecDepth 100000 in
theorem Pl_tieTogether_L81_l {l : Launch} {ids : List pxI} {Rt : Option pxV → List pxI → pxG → pxS → Prop} {p0 : Int32} {v1 : Int32} {n : Nat} {s : Int32 × pxS} {e : pxS} (h : px_it (Pl_tieTogether_L81 p0 v1) n s = some e) (hX0 : pw l (px_R 1) y_Pl_tieTogether c_Pl_tieTogether 3 none 123 [(0, .inr (some (1, p0.toNatClampNeg, 0))), (1, .inl v1)] [] ids cG e 0 0 Rt) : pw l (px_R 1) y_Pl_tieTogether c_Pl_tieTogether 3 none 81 [(0, .inr (some (1, p0.toNatClampNeg, 0))), (1, .inl v1), (2, .inl s.1)] [] ids cG s.2 0 0 Rt := by
  refine px_it_rule (f := Pl_tieTogether_L81 p0 v1) (C := fun s => pw l (px_R 1) y_Pl_tieTogether c_Pl_tieTogether 3 none 81 [(0, .inr (some (1, p0.toNatClampNeg, 0))), (1, .inl v1), (2, .inl s.1)] [] ids cG s.2 0 0 Rt) (X := fun e => (pw l (px_R 1) y_Pl_tieTogether c_Pl_tieTogether 3 none 123 [(0, .inr (some (1, p0.toNatClampNeg, 0))), (1, .inl v1)] [] ids cG e 0 0 Rt)) ?_ ?_ n s e h hX0
  · intro s s1 hf hC
    exact Pl_tieTogether_n81_l hf (fun s2 hs => by cases hs; exact hC) (fun e he => by cases he)
  · intro s e hf hX
    exact Pl_tieTogether_n81_l hf (fun s2 hs => by cases hs) (fun e1 he => by cases he; exact hX)
def Pl_tieTogether_n71 (σ : pxS) (p0 : Int32) (v1 : Int32) : Option ((Int32 × pxS) ⊕ (pxS)) :=
  (if (σ (1, p0.toNatClampNeg, 0) 0) ≤ v1 then some (.inr σ) else px_b1 (px_it (Pl_tieTogether_L81 p0 v1) px_N (0, σ)) fun e28 =>
  some (.inl ((v1 + 1), e28)))
set_option maxRecDepth 100000 in
theorem Pl_tieTogether_n71_l {l : Launch} {ids : List pxI} {Rt : Option pxV → List pxI → pxG → pxS → Prop} {σ : pxS} {p0 : Int32} {v1 : Int32} {o : (Int32 × pxS) ⊕ (pxS)} (h : Pl_tieTogether_n71 σ p0 v1 = some o) (hC : ∀ s, o = .inl s → pw l (px_R 1) y_Pl_tieTogether c_Pl_tieTogether 3 none 71 [(0, .inr (some (1, p0.toNatClampNeg, 0))), (1, .inl s.1)] [] ids cG s.2 0 0 Rt) (hX0 : ∀ e, o = .inr e → pw l (px_R 1) y_Pl_tieTogether c_Pl_tieTogether 3 none 129 [(0, .inr (some (1, p0.toNatClampNeg, 0)))] [] ids cG e 0 0 Rt) : pw l (px_R 1) y_Pl_tieTogether c_Pl_tieTogether 3 none 71 [(0, .inr (some (1, p0.toNatClampNeg, 0))), (1, .inl v1)] [] ids cG σ 0 0 Rt := by
  unfold Pl_tieTogether_n71 at h
  refine pw_iload_n 1 (px_at td_Pl_tieTogether 45 rfl) rfl rfl ?_
  refine pw_aload_n 0 (px_at td_Pl_tieTogether 46 rfl) rfl rfl ?_
  refine pw_getf (v := .inl (σ (1, p0.toNatClampNeg, 0) 0)) (px_at td_Pl_tieTogether 47 rfl) lf_Pl_57 rfl rfl rfl ?_
  rcases px_ite h with ⟨hc29, h⟩ | ⟨hc29, h⟩
  · refine pw_icmp_ge 129 (px_at td_Pl_tieTogether 48 rfl) (by decide) (fun _ => ?_) (fun hn => absurd hc29 hn)
    refine pw_L [(0, .inr (some (1, p0.toNatClampNeg, 0)))] [0] rfl ?_
    exact hX0 σ (Option.some.inj h).symm
  · refine pw_icmp_ge 129 (px_at td_Pl_tieTogether 48 rfl) (by decide) (fun hn => absurd hn hc29) (fun _ => ?_)
    refine pw_iconst (v := 0) (px_at td_Pl_tieTogether 49 rfl) (by decide) ?_
    refine pw_istore_n (L' := [(2, .inl 0), (0, .inr (some (1, p0.toNatClampNeg, 0))), (1, .inl v1)]) (px_at td_Pl_tieTogether 50 rfl) rfl (by decide) rfl ?_
    obtain ⟨e28, he28, h⟩ := px_b1_e h
    refine pw_L [(0, .inr (some (1, p0.toNatClampNeg, 0))), (1, .inl v1), (2, .inl 0)] [1, 2, 0] rfl ?_
    refine Pl_tieTogether_L81_l he28 ?_
    refine pw_iinc (q := 1) (v := (v1 + 1)) (L' := [(1, .inl (v1 + 1)), (0, .inr (some (1, p0.toNatClampNeg, 0)))]) (px_at td_Pl_tieTogether 77 rfl) rfl rfl (by decide) rfl ?_
    refine pw_goto 71 (px_at td_Pl_tieTogether 78 rfl) (by decide) ?_
    refine pw_L [(0, .inr (some (1, p0.toNatClampNeg, 0))), (1, .inl (v1 + 1))] [1, 0] rfl ?_
    exact hC ((v1 + 1), e28) (Option.some.inj h).symm
def Pl_tieTogether_L71 (p0 : Int32) : (Int32 × pxS) → Option ((Int32 × pxS) ⊕ (pxS)) := fun s => Pl_tieTogether_n71 s.2 p0 s.1
set_option maxRecDepth 100000 in
theorem Pl_tieTogether_L71_l {l : Launch} {ids : List pxI} {Rt : Option pxV → List pxI → pxG → pxS → Prop} {p0 : Int32} {n : Nat} {s : Int32 × pxS} {e : pxS} (h : px_it (Pl_tieTogether_L71 p0) n s = some e) (hX0 : pw l (px_R 1) y_Pl_tieTogether c_Pl_tieTogether 3 none 129 [(0, .inr (some (1, p0.toNatClampNeg, 0)))] [] ids cG e 0 0 Rt) : pw l (px_R 1) y_Pl_tieTogether c_Pl_tieTogether 3 none 71 [(0, .inr (some (1, p0.toNatClampNeg, 0))), (1, .inl s.1)] [] ids cG s.2 0 0 Rt := by
  refine px_it_rule (f := Pl_tieTogether_L71 p0) (C := fun s => pw l (px_R 1) y_Pl_tieTogether c_Pl_tieTogether 3 none 71 [(0, .inr (some (1, p0.toNatClampNeg, 0))), (1, .inl s.1)] [] ids cG s.2 0 0 Rt) (X := fun e => (pw l (px_R 1) y_Pl_tieTogether c_Pl_tieTogether 3 none 129 [(0, .inr (some (1, p0.toNatClampNeg, 0)))] [] ids cG e 0 0 Rt)) ?_ ?_ n s e h hX0
  · intro s s1 hf hC
    exact Pl_tieTogether_n71_l hf (fun s2 hs => by cases hs; exact hC) (fun e he => by cases he)
  · intro s e hf hX
    exact Pl_tieTogether_n71_l hf (fun s2 hs => by cases hs) (fun e1 he => by cases he; exact hX)
def Pl_tieTogether_n141 (σ : pxS) (p0 : Int32) (v1 : Int32) (v2 : Int32) : Option ((Int32 × pxS) ⊕ (pxS)) :=
  (if (σ (1, p0.toNatClampNeg, 0) 0) ≤ v2 then some (.inr σ) else px_gd v1 12 (px_gd v2 12 (px_gd v1 12 (px_l (px_up σ (8, p0.toNatClampNeg, 10) v1.toNatClampNeg ((σ (8, p0.toNatClampNeg, 10) v1.toNatClampNeg) ||| ((((σ (8, p0.toNatClampNeg, 9) v2.toNatClampNeg) >>> (v1 &&& 31)) &&& 1) <<< (v2 &&& 31)))) fun σ34 =>
  some (.inl ((v2 + 1), σ34))))))
set_option maxRecDepth 100000 in
theorem Pl_tieTogether_n141_l {l : Launch} {ids : List pxI} {Rt : Option pxV → List pxI → pxG → pxS → Prop} {σ : pxS} {p0 : Int32} {v1 : Int32} {v2 : Int32} {o : (Int32 × pxS) ⊕ (pxS)} (h : Pl_tieTogether_n141 σ p0 v1 v2 = some o) (hC : ∀ s, o = .inl s → pw l (px_R 1) y_Pl_tieTogether c_Pl_tieTogether 3 none 141 [(0, .inr (some (1, p0.toNatClampNeg, 0))), (1, .inl v1), (2, .inl s.1)] [] ids cG s.2 0 0 Rt) (hX0 : ∀ e, o = .inr e → pw l (px_R 1) y_Pl_tieTogether c_Pl_tieTogether 3 none 176 [(0, .inr (some (1, p0.toNatClampNeg, 0))), (1, .inl v1)] [] ids cG e 0 0 Rt) : pw l (px_R 1) y_Pl_tieTogether c_Pl_tieTogether 3 none 141 [(0, .inr (some (1, p0.toNatClampNeg, 0))), (1, .inl v1), (2, .inl v2)] [] ids cG σ 0 0 Rt := by
  unfold Pl_tieTogether_n141 at h
  refine pw_iload_n 2 (px_at td_Pl_tieTogether 87 rfl) rfl rfl ?_
  refine pw_aload_n 0 (px_at td_Pl_tieTogether 88 rfl) rfl rfl ?_
  refine pw_getf (v := .inl (σ (1, p0.toNatClampNeg, 0) 0)) (px_at td_Pl_tieTogether 89 rfl) lf_Pl_57 rfl rfl rfl ?_
  rcases px_ite h with ⟨hc35, h⟩ | ⟨hc35, h⟩
  · refine pw_icmp_ge 176 (px_at td_Pl_tieTogether 90 rfl) (by decide) (fun _ => ?_) (fun hn => absurd hc35 hn)
    refine pw_L [(0, .inr (some (1, p0.toNatClampNeg, 0))), (1, .inl v1)] [0, 1] rfl ?_
    exact hX0 σ (Option.some.inj h).symm
  · refine pw_icmp_ge 176 (px_at td_Pl_tieTogether 90 rfl) (by decide) (fun hn => absurd hn hc35) (fun _ => ?_)
    refine pw_aload_n 0 (px_at td_Pl_tieTogether 91 rfl) rfl rfl ?_
    refine pw_getf (v := .inr (some (8, p0.toNatClampNeg, 10))) (px_at td_Pl_tieTogether 92 rfl) lf_Pl_42 rfl rfl rfl ?_
    refine pw_iload_n 1 (px_at td_Pl_tieTogether 93 rfl) rfl rfl ?_
    refine pw_dup2 (px_at td_Pl_tieTogether 94 rfl) ?_
    obtain ⟨hi31, h⟩ := px_gd_e h
    refine pw_ial (px_at td_Pl_tieTogether 95 rfl) rfl hi31 rfl ?_
    refine pw_aload_n 0 (px_at td_Pl_tieTogether 96 rfl) rfl rfl ?_
    refine pw_getf (v := .inr (some (8, p0.toNatClampNeg, 9))) (px_at td_Pl_tieTogether 97 rfl) lf_Pl_39 rfl rfl rfl ?_
    refine pw_iload_n 2 (px_at td_Pl_tieTogether 98 rfl) rfl rfl ?_
    obtain ⟨hi32, h⟩ := px_gd_e h
    refine pw_ial (px_at td_Pl_tieTogether 99 rfl) rfl hi32 rfl ?_
    refine pw_iload_n 1 (px_at td_Pl_tieTogether 100 rfl) rfl rfl ?_
    refine pw_ishr (px_at td_Pl_tieTogether 101 rfl) ?_
    refine pw_iconst (v := 1) (px_at td_Pl_tieTogether 102 rfl) (by decide) ?_
    refine pw_iand (px_at td_Pl_tieTogether 103 rfl) ?_
    refine pw_iload_n 2 (px_at td_Pl_tieTogether 104 rfl) rfl rfl ?_
    refine pw_ishl (px_at td_Pl_tieTogether 105 rfl) ?_
    refine pw_ior (px_at td_Pl_tieTogether 106 rfl) ?_
    obtain ⟨hi33, h⟩ := px_gd_e h
    obtain ⟨σ34, hσ34, h⟩ := px_l_e h
    refine pw_ias (px_at td_Pl_tieTogether 107 rfl) rfl hi33 rfl hσ34 ?_
    refine pw_iinc (q := 2) (v := (v2 + 1)) (L' := [(2, .inl (v2 + 1)), (0, .inr (some (1, p0.toNatClampNeg, 0))), (1, .inl v1)]) (px_at td_Pl_tieTogether 108 rfl) rfl rfl (by decide) rfl ?_
    refine pw_goto 141 (px_at td_Pl_tieTogether 109 rfl) (by decide) ?_
    refine pw_L [(0, .inr (some (1, p0.toNatClampNeg, 0))), (1, .inl v1), (2, .inl (v2 + 1))] [1, 2, 0] rfl ?_
    exact hC ((v2 + 1), σ34) (Option.some.inj h).symm
def Pl_tieTogether_L141 (p0 : Int32) (v1 : Int32) : (Int32 × pxS) → Option ((Int32 × pxS) ⊕ (pxS)) := fun s => Pl_tieTogether_n141 s.2 p0 v1 s.1
set_option maxRecDepth 100000 in
theorem Pl_tieTogether_L141_l {l : Launch} {ids : List pxI} {Rt : Option pxV → List pxI → pxG → pxS → Prop} {p0 : Int32} {v1 : Int32} {n : Nat} {s : Int32 × pxS} {e : pxS} (h : px_it (Pl_tieTogether_L141 p0 v1) n s = some e) (hX0 : pw l (px_R 1) y_Pl_tieTogether c_Pl_tieTogether 3 none 176 [(0, .inr (some (1, p0.toNatClampNeg, 0))), (1, .inl v1)] [] ids cG e 0 0 Rt) : pw l (px_R 1) y_Pl_tieTogether c_Pl_tieTogether 3 none 141 [(0, .inr (some (1, p0.toNatClampNeg, 0))), (1, .inl v1), (2, .inl s.1)] [] ids cG s.2 0 0 Rt := by
  refine px_it_rule (f := Pl_tieTogether_L141 p0 v1) (C := fun s => pw l (px_R 1) y_Pl_tieTogether c_Pl_tieTogether 3 none 141 [(0, .inr (some (1, p0.toNatClampNeg, 0))), (1, .inl v1), (2, .inl s.1)] [] ids cG s.2 0 0 Rt) (X := fun e => (pw l (px_R 1) y_Pl_tieTogether c_Pl_tieTogether 3 none 176 [(0, .inr (some (1, p0.toNatClampNeg, 0))), (1, .inl v1)] [] ids cG e 0 0 Rt)) ?_ ?_ n s e h hX0
  · intro s s1 hf hC
    exact Pl_tieTogether_n141_l hf (fun s2 hs => by cases hs; exact hC) (fun e he => by cases he)
  · intro s e hf hX
    exact Pl_tieTogether_n141_l hf (fun s2 hs => by cases hs) (fun e1 he => by cases he; exact hX)
def Pl_tieTogether_n131 (σ : pxS) (p0 : Int32) (v1 : Int32) : Option ((Int32 × pxS) ⊕ (pxS)) :=
  (if (σ (1, p0.toNatClampNeg, 0) 0) ≤ v1 then some (.inr σ) else px_b1 (px_it (Pl_tieTogether_L141 p0 v1) px_N (0, σ)) fun e36 =>
  some (.inl ((v1 + 1), e36)))
set_option maxRecDepth 100000 in
theorem Pl_tieTogether_n131_l {l : Launch} {ids : List pxI} {Rt : Option pxV → List pxI → pxG → pxS → Prop} {σ : pxS} {p0 : Int32} {v1 : Int32} {o : (Int32 × pxS) ⊕ (pxS)} (h : Pl_tieTogether_n131 σ p0 v1 = some o) (hC : ∀ s, o = .inl s → pw l (px_R 1) y_Pl_tieTogether c_Pl_tieTogether 3 none 131 [(0, .inr (some (1, p0.toNatClampNeg, 0))), (1, .inl s.1)] [] ids cG s.2 0 0 Rt) (hX0 : ∀ e, o = .inr e → pw l (px_R 1) y_Pl_tieTogether c_Pl_tieTogether 3 none 182 [] [] ids cG e 0 0 Rt) : pw l (px_R 1) y_Pl_tieTogether c_Pl_tieTogether 3 none 131 [(0, .inr (some (1, p0.toNatClampNeg, 0))), (1, .inl v1)] [] ids cG σ 0 0 Rt := by
  unfold Pl_tieTogether_n131 at h
  refine pw_iload_n 1 (px_at td_Pl_tieTogether 81 rfl) rfl rfl ?_
  refine pw_aload_n 0 (px_at td_Pl_tieTogether 82 rfl) rfl rfl ?_
  refine pw_getf (v := .inl (σ (1, p0.toNatClampNeg, 0) 0)) (px_at td_Pl_tieTogether 83 rfl) lf_Pl_57 rfl rfl rfl ?_
  rcases px_ite h with ⟨hc37, h⟩ | ⟨hc37, h⟩
  · refine pw_icmp_ge 182 (px_at td_Pl_tieTogether 84 rfl) (by decide) (fun _ => ?_) (fun hn => absurd hc37 hn)
    refine pw_L [] [] rfl ?_
    exact hX0 σ (Option.some.inj h).symm
  · refine pw_icmp_ge 182 (px_at td_Pl_tieTogether 84 rfl) (by decide) (fun hn => absurd hn hc37) (fun _ => ?_)
    refine pw_iconst (v := 0) (px_at td_Pl_tieTogether 85 rfl) (by decide) ?_
    refine pw_istore_n (L' := [(2, .inl 0), (0, .inr (some (1, p0.toNatClampNeg, 0))), (1, .inl v1)]) (px_at td_Pl_tieTogether 86 rfl) rfl (by decide) rfl ?_
    obtain ⟨e36, he36, h⟩ := px_b1_e h
    refine pw_L [(0, .inr (some (1, p0.toNatClampNeg, 0))), (1, .inl v1), (2, .inl 0)] [1, 2, 0] rfl ?_
    refine Pl_tieTogether_L141_l he36 ?_
    refine pw_iinc (q := 1) (v := (v1 + 1)) (L' := [(1, .inl (v1 + 1)), (0, .inr (some (1, p0.toNatClampNeg, 0)))]) (px_at td_Pl_tieTogether 110 rfl) rfl rfl (by decide) rfl ?_
    refine pw_goto 131 (px_at td_Pl_tieTogether 111 rfl) (by decide) ?_
    refine pw_L [(0, .inr (some (1, p0.toNatClampNeg, 0))), (1, .inl (v1 + 1))] [1, 0] rfl ?_
    exact hC ((v1 + 1), e36) (Option.some.inj h).symm
def Pl_tieTogether_L131 (p0 : Int32) : (Int32 × pxS) → Option ((Int32 × pxS) ⊕ (pxS)) := fun s => Pl_tieTogether_n131 s.2 p0 s.1
set_option maxRecDepth 100000 in
theorem Pl_tieTogether_L131_l {l : Launch} {ids : List pxI} {Rt : Option pxV → List pxI → pxG → pxS → Prop} {p0 : Int32} {n : Nat} {s : Int32 × pxS} {e : pxS} (h : px_it (Pl_tieTogether_L131 p0) n s = some e) (hX0 : pw l (px_R 1) y_Pl_tieTogether c_Pl_tieTogether 3 none 182 [] [] ids cG e 0 0 Rt) : pw l (px_R 1) y_Pl_tieTogether c_Pl_tieTogether 3 none 131 [(0, .inr (some (1, p0.toNatClampNeg, 0))), (1, .inl s.1)] [] ids cG s.2 0 0 Rt := by
  refine px_it_rule (f := Pl_tieTogether_L131 p0) (C := fun s => pw l (px_R 1) y_Pl_tieTogether c_Pl_tieTogether 3 none 131 [(0, .inr (some (1, p0.toNatClampNeg, 0))), (1, .inl s.1)] [] ids cG s.2 0 0 Rt) (X := fun e => (pw l (px_R 1) y_Pl_tieTogether c_Pl_tieTogether 3 none 182 [] [] ids cG e 0 0 Rt)) ?_ ?_ n s e h hX0
  · intro s s1 hf hC
    exact Pl_tieTogether_n131_l hf (fun s2 hs => by cases hs; exact hC) (fun e he => by cases he)
  · intro s e hf hX
    exact Pl_tieTogether_n131_l hf (fun s2 hs => by cases hs) (fun e1 he => by cases he; exact hX)
def F_Pl_tieTogether (σ : pxS) (p0 : Int32) : Option (pxS) :=
  px_b1 (px_it (Pl_tieTogether_L2 p0) px_N (0, σ)) fun e20 =>
  px_b1 (px_it (Pl_tieTogether_L71 p0) px_N (0, e20)) fun e30 =>
  px_b1 (px_it (Pl_tieTogether_L131 p0) px_N (0, e30)) fun e38 =>
  some e38
set_option maxRecDepth 100000 in
theorem e_Pl_tieTogether {l : Launch} {ids : List pxI} {Rt : Option pxV → List pxI → pxG → pxS → Prop} {σ : pxS} {p0 : Int32} {res : pxS} (h : F_Pl_tieTogether σ p0 = some res) (hR : Rt none ids cG res) : pw l (px_R 1) y_Pl_tieTogether c_Pl_tieTogether 3 none 0 [(0, .inr (some (1, p0.toNatClampNeg, 0)))] [] ids cG σ 0 0 Rt := by
  unfold F_Pl_tieTogether at h
  refine pw_iconst (v := 0) (px_at td_Pl_tieTogether 0 rfl) (by decide) ?_
  refine pw_istore_n (L' := [(1, .inl 0), (0, .inr (some (1, p0.toNatClampNeg, 0)))]) (px_at td_Pl_tieTogether 1 rfl) rfl (by decide) rfl ?_
  obtain ⟨e20, he20, h⟩ := px_b1_e h
  refine pw_L [(0, .inr (some (1, p0.toNatClampNeg, 0))), (1, .inl 0)] [1, 0] rfl ?_
  refine Pl_tieTogether_L2_l he20 ?_
  refine pw_iconst (v := 0) (px_at td_Pl_tieTogether 43 rfl) (by decide) ?_
  refine pw_istore_n (L' := [(1, .inl 0), (0, .inr (some (1, p0.toNatClampNeg, 0)))]) (px_at td_Pl_tieTogether 44 rfl) rfl (by decide) rfl ?_
  obtain ⟨e30, he30, h⟩ := px_b1_e h
  refine pw_L [(0, .inr (some (1, p0.toNatClampNeg, 0))), (1, .inl 0)] [1, 0] rfl ?_
  refine Pl_tieTogether_L71_l he30 ?_
  refine pw_iconst (v := 0) (px_at td_Pl_tieTogether 79 rfl) (by decide) ?_
  refine pw_istore_n (L' := [(1, .inl 0), (0, .inr (some (1, p0.toNatClampNeg, 0)))]) (px_at td_Pl_tieTogether 80 rfl) rfl (by decide) rfl ?_
  obtain ⟨e38, he38, h⟩ := px_b1_e h
  refine pw_L [(0, .inr (some (1, p0.toNatClampNeg, 0))), (1, .inl 0)] [1, 0] rfl ?_
  refine Pl_tieTogether_L131_l he38 ?_
  obtain rfl := Option.some.inj h
  exact pw_vret (px_at td_Pl_tieTogether 112 rfl) rfl (Nat.le_refl 0) (Nat.le_refl 0) hR
theorem k_Pl_tieTogether {l : Launch} {ids : List pxI} {σ : pxS} {p0 : Int32} {res : pxS} (h : F_Pl_tieTogether σ p0 = some res) : pm l y_Pl_tieTogether c_Pl_tieTogether 3 none (px_R 1) [.inr (some (1, p0.toNatClampNeg, 0))] ids cG σ (px_r none ids cG res) :=
  pm_ofF (by decide +kernel) (Nat.le_of_ble_eq_true rfl) (e_Pl_tieTogether h ⟨rfl, rfl, rfl, rfl⟩)
/-! In_bitCount -/
def F_In_bitCount (σ : pxS) (v0 : Int32) : Option (Int32) :=
  some (((((((((v0 - ((((v0 : Int32).toUInt32 >>> ((1 : Int32).toUInt32 &&& Int32.toUInt32 31)).toInt32) &&& 1431655765)) &&& 858993459) + (((((v0 - ((((v0 : Int32).toUInt32 >>> ((1 : Int32).toUInt32 &&& Int32.toUInt32 31)).toInt32) &&& 1431655765)) : Int32).toUInt32 >>> ((2 : Int32).toUInt32 &&& Int32.toUInt32 31)).toInt32) &&& 858993459)) + ((((((v0 - ((((v0 : Int32).toUInt32 >>> ((1 : Int32).toUInt32 &&& Int32.toUInt32 31)).toInt32) &&& 1431655765)) &&& 858993459) + (((((v0 - ((((v0 : Int32).toUInt32 >>> ((1 : Int32).toUInt32 &&& Int32.toUInt32 31)).toInt32) &&& 1431655765)) : Int32).toUInt32 >>> ((2 : Int32).toUInt32 &&& Int32.toUInt32 31)).toInt32) &&& 858993459)) : Int32).toUInt32 >>> ((4 : Int32).toUInt32 &&& Int32.toUInt32 31)).toInt32)) &&& 252645135) + ((((((((v0 - ((((v0 : Int32).toUInt32 >>> ((1 : Int32).toUInt32 &&& Int32.toUInt32 31)).toInt32) &&& 1431655765)) &&& 858993459) + (((((v0 - ((((v0 : Int32).toUInt32 >>> ((1 : Int32).toUInt32 &&& Int32.toUInt32 31)).toInt32) &&& 1431655765)) : Int32).toUInt32 >>> ((2 : Int32).toUInt32 &&& Int32.toUInt32 31)).toInt32) &&& 858993459)) + ((((((v0 - ((((v0 : Int32).toUInt32 >>> ((1 : Int32).toUInt32 &&& Int32.toUInt32 31)).toInt32) &&& 1431655765)) &&& 858993459) + (((((v0 - ((((v0 : Int32).toUInt32 >>> ((1 : Int32).toUInt32 &&& Int32.toUInt32 31)).toInt32) &&& 1431655765)) : Int32).toUInt32 >>> ((2 : Int32).toUInt32 &&& Int32.toUInt32 31)).toInt32) &&& 858993459)) : Int32).toUInt32 >>> ((4 : Int32).toUInt32 &&& Int32.toUInt32 31)).toInt32)) &&& 252645135) : Int32).toUInt32 >>> ((8 : Int32).toUInt32 &&& Int32.toUInt32 31)).toInt32)) + (((((((((v0 - ((((v0 : Int32).toUInt32 >>> ((1 : Int32).toUInt32 &&& Int32.toUInt32 31)).toInt32) &&& 1431655765)) &&& 858993459) + (((((v0 - ((((v0 : Int32).toUInt32 >>> ((1 : Int32).toUInt32 &&& Int32.toUInt32 31)).toInt32) &&& 1431655765)) : Int32).toUInt32 >>> ((2 : Int32).toUInt32 &&& Int32.toUInt32 31)).toInt32) &&& 858993459)) + ((((((v0 - ((((v0 : Int32).toUInt32 >>> ((1 : Int32).toUInt32 &&& Int32.toUInt32 31)).toInt32) &&& 1431655765)) &&& 858993459) + (((((v0 - ((((v0 : Int32).toUInt32 >>> ((1 : Int32).toUInt32 &&& Int32.toUInt32 31)).toInt32) &&& 1431655765)) : Int32).toUInt32 >>> ((2 : Int32).toUInt32 &&& Int32.toUInt32 31)).toInt32) &&& 858993459)) : Int32).toUInt32 >>> ((4 : Int32).toUInt32 &&& Int32.toUInt32 31)).toInt32)) &&& 252645135) + ((((((((v0 - ((((v0 : Int32).toUInt32 >>> ((1 : Int32).toUInt32 &&& Int32.toUInt32 31)).toInt32) &&& 1431655765)) &&& 858993459) + (((((v0 - ((((v0 : Int32).toUInt32 >>> ((1 : Int32).toUInt32 &&& Int32.toUInt32 31)).toInt32) &&& 1431655765)) : Int32).toUInt32 >>> ((2 : Int32).toUInt32 &&& Int32.toUInt32 31)).toInt32) &&& 858993459)) + ((((((v0 - ((((v0 : Int32).toUInt32 >>> ((1 : Int32).toUInt32 &&& Int32.toUInt32 31)).toInt32) &&& 1431655765)) &&& 858993459) + (((((v0 - ((((v0 : Int32).toUInt32 >>> ((1 : Int32).toUInt32 &&& Int32.toUInt32 31)).toInt32) &&& 1431655765)) : Int32).toUInt32 >>> ((2 : Int32).toUInt32 &&& Int32.toUInt32 31)).toInt32) &&& 858993459)) : Int32).toUInt32 >>> ((4 : Int32).toUInt32 &&& Int32.toUInt32 31)).toInt32)) &&& 252645135) : Int32).toUInt32 >>> ((8 : Int32).toUInt32 &&& Int32.toUInt32 31)).toInt32)) : Int32).toUInt32 >>> ((16 : Int32).toUInt32 &&& Int32.toUInt32 31)).toInt32)) &&& 63))
set_option maxRecDepth 100000 in
theorem e_In_bitCount {l : Launch} {ids : List pxI} {Rt : Option pxV → List pxI → pxG → pxS → Prop} {σ : pxS} {v0 : Int32} {res : Int32} (h : F_In_bitCount σ v0 = some res) (hR : Rt (some (.inl res)) ids cG σ) : pw l (px_R 1) y_In_bitCount c_In_bitCount 1 (some .int) 0 [(0, .inl v0)] [] ids cG σ 0 0 Rt := by
  unfold F_In_bitCount at h
  refine pw_iload_n 0 (px_at td_In_bitCount 0 rfl) rfl rfl ?_
  refine pw_iload_n 0 (px_at td_In_bitCount 1 rfl) rfl rfl ?_
  refine pw_iconst (v := 1) (px_at td_In_bitCount 2 rfl) (by decide) ?_
  refine pw_iushr (px_at td_In_bitCount 3 rfl) ?_
  refine pw_ldcw (v := 1431655765) (px_at td_In_bitCount 4 rfl) lc_In_265 ?_
  refine pw_iand (px_at td_In_bitCount 5 rfl) ?_
  refine pw_isub (px_at td_In_bitCount 6 rfl) ?_
  refine pw_istore_n (L' := [(0, .inl (v0 - ((((v0 : Int32).toUInt32 >>> ((1 : Int32).toUInt32 &&& Int32.toUInt32 31)).toInt32) &&& 1431655765)))]) (px_at td_In_bitCount 7 rfl) rfl (by decide) rfl ?_
  refine pw_iload_n 0 (px_at td_In_bitCount 8 rfl) rfl rfl ?_
  refine pw_ldcw (v := 858993459) (px_at td_In_bitCount 9 rfl) lc_In_266 ?_
  refine pw_iand (px_at td_In_bitCount 10 rfl) ?_
  refine pw_iload_n 0 (px_at td_In_bitCount 11 rfl) rfl rfl ?_
  refine pw_iconst (v := 2) (px_at td_In_bitCount 12 rfl) (by decide) ?_
  refine pw_iushr (px_at td_In_bitCount 13 rfl) ?_
  refine pw_ldcw (v := 858993459) (px_at td_In_bitCount 14 rfl) lc_In_266 ?_
  refine pw_iand (px_at td_In_bitCount 15 rfl) ?_
  refine pw_iadd (px_at td_In_bitCount 16 rfl) ?_
  refine pw_istore_n (L' := [(0, .inl (((v0 - ((((v0 : Int32).toUInt32 >>> ((1 : Int32).toUInt32 &&& Int32.toUInt32 31)).toInt32) &&& 1431655765)) &&& 858993459) + (((((v0 - ((((v0 : Int32).toUInt32 >>> ((1 : Int32).toUInt32 &&& Int32.toUInt32 31)).toInt32) &&& 1431655765)) : Int32).toUInt32 >>> ((2 : Int32).toUInt32 &&& Int32.toUInt32 31)).toInt32) &&& 858993459)))]) (px_at td_In_bitCount 17 rfl) rfl (by decide) rfl ?_
  refine pw_iload_n 0 (px_at td_In_bitCount 18 rfl) rfl rfl ?_
  refine pw_iload_n 0 (px_at td_In_bitCount 19 rfl) rfl rfl ?_
  refine pw_iconst (v := 4) (px_at td_In_bitCount 20 rfl) (by decide) ?_
  refine pw_iushr (px_at td_In_bitCount 21 rfl) ?_
  refine pw_iadd (px_at td_In_bitCount 22 rfl) ?_
  refine pw_ldcw (v := 252645135) (px_at td_In_bitCount 23 rfl) lc_In_267 ?_
  refine pw_iand (px_at td_In_bitCount 24 rfl) ?_
  refine pw_istore_n (L' := [(0, .inl (((((v0 - ((((v0 : Int32).toUInt32 >>> ((1 : Int32).toUInt32 &&& Int32.toUInt32 31)).toInt32) &&& 1431655765)) &&& 858993459) + (((((v0 - ((((v0 : Int32).toUInt32 >>> ((1 : Int32).toUInt32 &&& Int32.toUInt32 31)).toInt32) &&& 1431655765)) : Int32).toUInt32 >>> ((2 : Int32).toUInt32 &&& Int32.toUInt32 31)).toInt32) &&& 858993459)) + ((((((v0 - ((((v0 : Int32).toUInt32 >>> ((1 : Int32).toUInt32 &&& Int32.toUInt32 31)).toInt32) &&& 1431655765)) &&& 858993459) + (((((v0 - ((((v0 : Int32).toUInt32 >>> ((1 : Int32).toUInt32 &&& Int32.toUInt32 31)).toInt32) &&& 1431655765)) : Int32).toUInt32 >>> ((2 : Int32).toUInt32 &&& Int32.toUInt32 31)).toInt32) &&& 858993459)) : Int32).toUInt32 >>> ((4 : Int32).toUInt32 &&& Int32.toUInt32 31)).toInt32)) &&& 252645135))]) (px_at td_In_bitCount 25 rfl) rfl (by decide) rfl ?_
  refine pw_iload_n 0 (px_at td_In_bitCount 26 rfl) rfl rfl ?_
  refine pw_iload_n 0 (px_at td_In_bitCount 27 rfl) rfl rfl ?_
  refine pw_bipush (v := 8) (px_at td_In_bitCount 28 rfl) (by decide) ?_
  refine pw_iushr (px_at td_In_bitCount 29 rfl) ?_
  refine pw_iadd (px_at td_In_bitCount 30 rfl) ?_
  refine pw_istore_n (L' := [(0, .inl ((((((v0 - ((((v0 : Int32).toUInt32 >>> ((1 : Int32).toUInt32 &&& Int32.toUInt32 31)).toInt32) &&& 1431655765)) &&& 858993459) + (((((v0 - ((((v0 : Int32).toUInt32 >>> ((1 : Int32).toUInt32 &&& Int32.toUInt32 31)).toInt32) &&& 1431655765)) : Int32).toUInt32 >>> ((2 : Int32).toUInt32 &&& Int32.toUInt32 31)).toInt32) &&& 858993459)) + ((((((v0 - ((((v0 : Int32).toUInt32 >>> ((1 : Int32).toUInt32 &&& Int32.toUInt32 31)).toInt32) &&& 1431655765)) &&& 858993459) + (((((v0 - ((((v0 : Int32).toUInt32 >>> ((1 : Int32).toUInt32 &&& Int32.toUInt32 31)).toInt32) &&& 1431655765)) : Int32).toUInt32 >>> ((2 : Int32).toUInt32 &&& Int32.toUInt32 31)).toInt32) &&& 858993459)) : Int32).toUInt32 >>> ((4 : Int32).toUInt32 &&& Int32.toUInt32 31)).toInt32)) &&& 252645135) + ((((((((v0 - ((((v0 : Int32).toUInt32 >>> ((1 : Int32).toUInt32 &&& Int32.toUInt32 31)).toInt32) &&& 1431655765)) &&& 858993459) + (((((v0 - ((((v0 : Int32).toUInt32 >>> ((1 : Int32).toUInt32 &&& Int32.toUInt32 31)).toInt32) &&& 1431655765)) : Int32).toUInt32 >>> ((2 : Int32).toUInt32 &&& Int32.toUInt32 31)).toInt32) &&& 858993459)) + ((((((v0 - ((((v0 : Int32).toUInt32 >>> ((1 : Int32).toUInt32 &&& Int32.toUInt32 31)).toInt32) &&& 1431655765)) &&& 858993459) + (((((v0 - ((((v0 : Int32).toUInt32 >>> ((1 : Int32).toUInt32 &&& Int32.toUInt32 31)).toInt32) &&& 1431655765)) : Int32).toUInt32 >>> ((2 : Int32).toUInt32 &&& Int32.toUInt32 31)).toInt32) &&& 858993459)) : Int32).toUInt32 >>> ((4 : Int32).toUInt32 &&& Int32.toUInt32 31)).toInt32)) &&& 252645135) : Int32).toUInt32 >>> ((8 : Int32).toUInt32 &&& Int32.toUInt32 31)).toInt32)))]) (px_at td_In_bitCount 31 rfl) rfl (by decide) rfl ?_
  refine pw_iload_n 0 (px_at td_In_bitCount 32 rfl) rfl rfl ?_
  refine pw_iload_n 0 (px_at td_In_bitCount 33 rfl) rfl rfl ?_
  refine pw_bipush (v := 16) (px_at td_In_bitCount 34 rfl) (by decide) ?_
  refine pw_iushr (px_at td_In_bitCount 35 rfl) ?_
  refine pw_iadd (px_at td_In_bitCount 36 rfl) ?_
  refine pw_istore_n (L' := [(0, .inl (((((((v0 - ((((v0 : Int32).toUInt32 >>> ((1 : Int32).toUInt32 &&& Int32.toUInt32 31)).toInt32) &&& 1431655765)) &&& 858993459) + (((((v0 - ((((v0 : Int32).toUInt32 >>> ((1 : Int32).toUInt32 &&& Int32.toUInt32 31)).toInt32) &&& 1431655765)) : Int32).toUInt32 >>> ((2 : Int32).toUInt32 &&& Int32.toUInt32 31)).toInt32) &&& 858993459)) + ((((((v0 - ((((v0 : Int32).toUInt32 >>> ((1 : Int32).toUInt32 &&& Int32.toUInt32 31)).toInt32) &&& 1431655765)) &&& 858993459) + (((((v0 - ((((v0 : Int32).toUInt32 >>> ((1 : Int32).toUInt32 &&& Int32.toUInt32 31)).toInt32) &&& 1431655765)) : Int32).toUInt32 >>> ((2 : Int32).toUInt32 &&& Int32.toUInt32 31)).toInt32) &&& 858993459)) : Int32).toUInt32 >>> ((4 : Int32).toUInt32 &&& Int32.toUInt32 31)).toInt32)) &&& 252645135) + ((((((((v0 - ((((v0 : Int32).toUInt32 >>> ((1 : Int32).toUInt32 &&& Int32.toUInt32 31)).toInt32) &&& 1431655765)) &&& 858993459) + (((((v0 - ((((v0 : Int32).toUInt32 >>> ((1 : Int32).toUInt32 &&& Int32.toUInt32 31)).toInt32) &&& 1431655765)) : Int32).toUInt32 >>> ((2 : Int32).toUInt32 &&& Int32.toUInt32 31)).toInt32) &&& 858993459)) + ((((((v0 - ((((v0 : Int32).toUInt32 >>> ((1 : Int32).toUInt32 &&& Int32.toUInt32 31)).toInt32) &&& 1431655765)) &&& 858993459) + (((((v0 - ((((v0 : Int32).toUInt32 >>> ((1 : Int32).toUInt32 &&& Int32.toUInt32 31)).toInt32) &&& 1431655765)) : Int32).toUInt32 >>> ((2 : Int32).toUInt32 &&& Int32.toUInt32 31)).toInt32) &&& 858993459)) : Int32).toUInt32 >>> ((4 : Int32).toUInt32 &&& Int32.toUInt32 31)).toInt32)) &&& 252645135) : Int32).toUInt32 >>> ((8 : Int32).toUInt32 &&& Int32.toUInt32 31)).toInt32)) + (((((((((v0 - ((((v0 : Int32).toUInt32 >>> ((1 : Int32).toUInt32 &&& Int32.toUInt32 31)).toInt32) &&& 1431655765)) &&& 858993459) + (((((v0 - ((((v0 : Int32).toUInt32 >>> ((1 : Int32).toUInt32 &&& Int32.toUInt32 31)).toInt32) &&& 1431655765)) : Int32).toUInt32 >>> ((2 : Int32).toUInt32 &&& Int32.toUInt32 31)).toInt32) &&& 858993459)) + ((((((v0 - ((((v0 : Int32).toUInt32 >>> ((1 : Int32).toUInt32 &&& Int32.toUInt32 31)).toInt32) &&& 1431655765)) &&& 858993459) + (((((v0 - ((((v0 : Int32).toUInt32 >>> ((1 : Int32).toUInt32 &&& Int32.toUInt32 31)).toInt32) &&& 1431655765)) : Int32).toUInt32 >>> ((2 : Int32).toUInt32 &&& Int32.toUInt32 31)).toInt32) &&& 858993459)) : Int32).toUInt32 >>> ((4 : Int32).toUInt32 &&& Int32.toUInt32 31)).toInt32)) &&& 252645135) + ((((((((v0 - ((((v0 : Int32).toUInt32 >>> ((1 : Int32).toUInt32 &&& Int32.toUInt32 31)).toInt32) &&& 1431655765)) &&& 858993459) + (((((v0 - ((((v0 : Int32).toUInt32 >>> ((1 : Int32).toUInt32 &&& Int32.toUInt32 31)).toInt32) &&& 1431655765)) : Int32).toUInt32 >>> ((2 : Int32).toUInt32 &&& Int32.toUInt32 31)).toInt32) &&& 858993459)) + ((((((v0 - ((((v0 : Int32).toUInt32 >>> ((1 : Int32).toUInt32 &&& Int32.toUInt32 31)).toInt32) &&& 1431655765)) &&& 858993459) + (((((v0 - ((((v0 : Int32).toUInt32 >>> ((1 : Int32).toUInt32 &&& Int32.toUInt32 31)).toInt32) &&& 1431655765)) : Int32).toUInt32 >>> ((2 : Int32).toUInt32 &&& Int32.toUInt32 31)).toInt32) &&& 858993459)) : Int32).toUInt32 >>> ((4 : Int32).toUInt32 &&& Int32.toUInt32 31)).toInt32)) &&& 252645135) : Int32).toUInt32 >>> ((8 : Int32).toUInt32 &&& Int32.toUInt32 31)).toInt32)) : Int32).toUInt32 >>> ((16 : Int32).toUInt32 &&& Int32.toUInt32 31)).toInt32)))]) (px_at td_In_bitCount 37 rfl) rfl (by decide) rfl ?_
  refine pw_iload_n 0 (px_at td_In_bitCount 38 rfl) rfl rfl ?_
  refine pw_bipush (v := 63) (px_at td_In_bitCount 39 rfl) (by decide) ?_
  refine pw_iand (px_at td_In_bitCount 40 rfl) ?_
  obtain rfl := Option.some.inj h
  exact pw_iret (px_at td_In_bitCount 41 rfl) rfl (Nat.le_refl 0) (Nat.le_refl 0) hR
theorem k_In_bitCount {l : Launch} {ids : List pxI} {σ : pxS} {v0 : Int32} {res : Int32} (h : F_In_bitCount σ v0 = some res) : pm l y_In_bitCount c_In_bitCount 1 (some .int) (px_R 1) [.inl v0] ids cG σ (px_r (some (.inl res)) ids cG σ) :=
  pm_ofF (by decide +kernel) (Nat.le_of_ble_eq_true rfl) (e_In_bitCount h ⟨rfl, rfl, rfl, rfl⟩)
