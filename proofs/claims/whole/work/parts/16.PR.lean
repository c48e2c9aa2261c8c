/-! PR_putWord -/
def PR_putWord_n3 (σ : pxS) (v1 : Int32) (v2 : Int32) : Option ((Int32 × pxS) ⊕ (pxS)) :=
  (if v2 < 0 then some (.inr σ) else (if 700 ≤ (σ (0, 0, 0) 7) then some (.inr σ) else px_gd (σ (0, 0, 0) 7) 700 (px_l (px_up σ (5, 0, 0) (σ (0, 0, 0) 7).toNatClampNeg (vp_nar .byte (((v1 >>> (v2 &&& 31)) : Int32).toInt8.toInt32))) fun σ2 =>
  px_l (px_up σ2 (0, 0, 0) 7 ((σ2 (0, 0, 0) 7) + 1)) fun σ3 =>
  some (.inl ((v2 + (-8)), σ3)))))
set_option maxRecDepth 100000 in
theorem PR_putWord_n3_l {l : Launch} {ids : List pxI} {Rt : Option pxV → List pxI → pxG → pxS → Prop} {σ : pxS} {v1 : Int32} {v2 : Int32} {o : (Int32 × pxS) ⊕ (pxS)} (h : PR_putWord_n3 σ v1 v2 = some o) (hC : ∀ s, o = .inl s → pw l (px_R 1) y_PR_putWord c_PR_putWord 3 none 3 [(0, .inr (some (0, 0, 0))), (1, .inl v1), (2, .inl s.1)] [] ids cG s.2 0 0 Rt) (hX0 : ∀ e, o = .inr e → pw l (px_R 1) y_PR_putWord c_PR_putWord 3 none 46 [] [] ids cG e 0 0 Rt) : pw l (px_R 1) y_PR_putWord c_PR_putWord 3 none 3 [(0, .inr (some (0, 0, 0))), (1, .inl v1), (2, .inl v2)] [] ids cG σ 0 0 Rt := by
  unfold PR_putWord_n3 at h
  refine pw_iload_n 2 (px_at td_PR_putWord 2 rfl) rfl rfl ?_
  rcases px_ite h with ⟨hc5, h⟩ | ⟨hc5, h⟩
  · refine pw_if_lt 46 (px_at td_PR_putWord 3 rfl) (by decide) (fun _ => ?_) (fun hn => absurd hc5 hn)
    refine pw_L [] [] rfl ?_
    exact hX0 σ (Option.some.inj h).symm
  · refine pw_if_lt 46 (px_at td_PR_putWord 3 rfl) (by decide) (fun hn => absurd hn hc5) (fun _ => ?_)
    refine pw_aload_n 0 (px_at td_PR_putWord 4 rfl) rfl rfl ?_
    refine pw_getf (v := .inl (σ (0, 0, 0) 7)) (px_at td_PR_putWord 5 rfl) lf_PR_55 rfl rfl rfl ?_
    refine pw_sipush (v := 700) (px_at td_PR_putWord 6 rfl) (by decide) ?_
    rcases px_ite h with ⟨hc4, h⟩ | ⟨hc4, h⟩
    · refine pw_icmp_ge 46 (px_at td_PR_putWord 7 rfl) (by decide) (fun _ => ?_) (fun hn => absurd hc4 hn)
      refine pw_L [] [] rfl ?_
      exact hX0 σ (Option.some.inj h).symm
    · refine pw_icmp_ge 46 (px_at td_PR_putWord 7 rfl) (by decide) (fun hn => absurd hn hc4) (fun _ => ?_)
      refine pw_aload_n 0 (px_at td_PR_putWord 8 rfl) rfl rfl ?_
      refine pw_getf (v := .inr (some (5, 0, 0))) (px_at td_PR_putWord 9 rfl) lf_PR_9 rfl rfl rfl ?_
      refine pw_aload_n 0 (px_at td_PR_putWord 10 rfl) rfl rfl ?_
      refine pw_getf (v := .inl (σ (0, 0, 0) 7)) (px_at td_PR_putWord 11 rfl) lf_PR_55 rfl rfl rfl ?_
      refine pw_iload_n 1 (px_at td_PR_putWord 12 rfl) rfl rfl ?_
      refine pw_iload_n 2 (px_at td_PR_putWord 13 rfl) rfl rfl ?_
      refine pw_ishr (px_at td_PR_putWord 14 rfl) ?_
      refine pw_i2b (px_at td_PR_putWord 15 rfl) ?_
      obtain ⟨hi1, h⟩ := px_gd_e h
      obtain ⟨σ2, hσ2, h⟩ := px_l_e h
      refine pw_bas (px_at td_PR_putWord 16 rfl) rfl hi1 rfl hσ2 ?_
      refine pw_aload_n 0 (px_at td_PR_putWord 17 rfl) rfl rfl ?_
      refine pw_dup (px_at td_PR_putWord 18 rfl) ?_
      refine pw_getf (v := .inl (σ2 (0, 0, 0) 7)) (px_at td_PR_putWord 19 rfl) lf_PR_55 rfl rfl rfl ?_
      refine pw_iconst (v := 1) (px_at td_PR_putWord 20 rfl) (by decide) ?_
      refine pw_iadd (px_at td_PR_putWord 21 rfl) ?_
      obtain ⟨σ3, hσ3, h⟩ := px_l_e h
      refine pw_puti (px_at td_PR_putWord 22 rfl) lw_PR_55 rfl rfl (pw_s hσ3 ?_)
      refine pw_iinc (q := 2) (v := (v2 + (-8))) (L' := [(2, .inl (v2 + (-8))), (0, .inr (some (0, 0, 0))), (1, .inl v1)]) (px_at td_PR_putWord 23 rfl) rfl rfl (by decide) rfl ?_
      refine pw_goto 3 (px_at td_PR_putWord 24 rfl) (by decide) ?_
      refine pw_L [(0, .inr (some (0, 0, 0))), (1, .inl v1), (2, .inl (v2 + (-8)))] [1, 2, 0] rfl ?_
      exact hC ((v2 + (-8)), σ3) (Option.some.inj h).symm
def PR_putWord_L3 (v1 : Int32) : (Int32 × pxS) → Option ((Int32 × pxS) ⊕ (pxS)) := fun s => PR_putWord_n3 s.2 v1 s.1
set_option maxRecDepth 100000 in
theorem PR_putWord_L3_l {l : Launch} {ids : List pxI} {Rt : Option pxV → List pxI → pxG → pxS → Prop} {v1 : Int32} {n : Nat} {s : Int32 × pxS} {e : pxS} (h : px_it (PR_putWord_L3 v1) n s = some e) (hX0 : pw l (px_R 1) y_PR_putWord c_PR_putWord 3 none 46 [] [] ids cG e 0 0 Rt) : pw l (px_R 1) y_PR_putWord c_PR_putWord 3 none 3 [(0, .inr (some (0, 0, 0))), (1, .inl v1), (2, .inl s.1)] [] ids cG s.2 0 0 Rt := by
  refine px_it_rule (f := PR_putWord_L3 v1) (C := fun s => pw l (px_R 1) y_PR_putWord c_PR_putWord 3 none 3 [(0, .inr (some (0, 0, 0))), (1, .inl v1), (2, .inl s.1)] [] ids cG s.2 0 0 Rt) (X := fun e => (pw l (px_R 1) y_PR_putWord c_PR_putWord 3 none 46 [] [] ids cG e 0 0 Rt)) ?_ ?_ n s e h hX0
  · intro s s1 hf hC
    exact PR_putWord_n3_l hf (fun s2 hs => by cases hs; exact hC) (fun e he => by cases he)
  · intro s e hf hX
    exact PR_putWord_n3_l hf (fun s2 hs => by cases hs) (fun e1 he => by cases he; exact hX)
def F_PR_putWord (σ : pxS) (v1 : Int32) : Option (pxS) :=
  px_b1 (px_it (PR_putWord_L3 v1) px_N (24, σ)) fun e6 =>
  some e6
set_option maxRecDepth 100000 in
theorem e_PR_putWord {l : Launch} {ids : List pxI} {Rt : Option pxV → List pxI → pxG → pxS → Prop} {σ : pxS} {v1 : Int32} {res : pxS} (h : F_PR_putWord σ v1 = some res) (hR : Rt none ids cG res) : pw l (px_R 1) y_PR_putWord c_PR_putWord 3 none 0 [(0, .inr (some (0, 0, 0))), (1, .inl v1)] [] ids cG σ 0 0 Rt := by
  unfold F_PR_putWord at h
  refine pw_bipush (v := 24) (px_at td_PR_putWord 0 rfl) (by decide) ?_
  refine pw_istore_n (L' := [(2, .inl 24), (0, .inr (some (0, 0, 0))), (1, .inl v1)]) (px_at td_PR_putWord 1 rfl) rfl (by decide) rfl ?_
  obtain ⟨e6, he6, h⟩ := px_b1_e h
  refine pw_L [(0, .inr (some (0, 0, 0))), (1, .inl v1), (2, .inl 24)] [1, 2, 0] rfl ?_
  refine PR_putWord_L3_l he6 ?_
  obtain rfl := Option.some.inj h
  exact pw_vret (px_at td_PR_putWord 25 rfl) rfl (Nat.le_refl 0) (Nat.le_refl 0) hR
theorem k_PR_putWord {l : Launch} {ids : List pxI} {σ : pxS} {v1 : Int32} {res : pxS} (h : F_PR_putWord σ v1 = some res) : pm l y_PR_putWord c_PR_putWord 3 none (px_R 1) [.inr (some (0, 0, 0)), .inl v1] ids cG σ (px_r none ids cG res) :=
  pm_ofF (by decide +kernel) (Nat.le_of_ble_eq_true rfl) (e_PR_putWord h ⟨rfl, rfl, rfl, rfl⟩)
/-! PR_feed -/
def F_PR_feed (σ : pxS) (v1 : Int32) (v2 : Int32) (v3 : Int32) (v4 : Int32) (v5 : Int32) : Option (Int32 × pxS) :=
  (if ((σ (0, 0, 0) 7) + 20) ≤ 700 then px_b1 (F_PR_putWord σ v1) fun σ1 =>
  px_b1 (F_PR_putWord σ1 v2) fun σ2 =>
  px_b1 (F_PR_putWord σ2 v3) fun σ3 =>
  px_b1 (F_PR_putWord σ3 v4) fun σ4 =>
  px_b1 (F_PR_putWord σ4 v5) fun σ5 =>
  some ((σ5 (0, 0, 0) 7), σ5) else some ((-1), σ))
set_option maxRecDepth 100000 in
theorem e_PR_feed {l : Launch} {ids : List pxI} {Rt : Option pxV → List pxI → pxG → pxS → Prop} {σ : pxS} {v1 : Int32} {v2 : Int32} {v3 : Int32} {v4 : Int32} {v5 : Int32} {res : Int32 × pxS} (h : F_PR_feed σ v1 v2 v3 v4 v5 = some res) (hR : Rt (some (.inl res.1)) ids cG res.2) : pw l (px_R 2) y_PR_feed c_PR_feed 6 (some .int) 0 [(0, .inr (some (0, 0, 0))), (1, .inl v1), (2, .inl v2), (3, .inl v3), (4, .inl v4), (5, .inl v5)] [] ids cG σ 0 0 Rt := by
  unfold F_PR_feed at h
  refine pw_aload_n 0 (px_at td_PR_feed 0 rfl) rfl rfl ?_
  refine pw_getf (v := .inl (σ (0, 0, 0) 7)) (px_at td_PR_feed 1 rfl) lf_PR_55 rfl rfl rfl ?_
  refine pw_bipush (v := 20) (px_at td_PR_feed 2 rfl) (by decide) ?_
  refine pw_iadd (px_at td_PR_feed 3 rfl) ?_
  refine pw_sipush (v := 700) (px_at td_PR_feed 4 rfl) (by decide) ?_
  rcases px_ite h with ⟨hc6, h⟩ | ⟨hc6, h⟩
  · refine pw_icmp_le 15 (px_at td_PR_feed 5 rfl) (by decide) (fun _ => ?_) (fun hn => absurd hc6 hn)
    refine pw_aload_n 0 (px_at td_PR_feed 8 rfl) rfl rfl ?_
    refine pw_iload_n 1 (px_at td_PR_feed 9 rfl) rfl rfl ?_
    obtain ⟨σ1, hk1, h⟩ := px_b1_e h
    refine pw_cV0 (0, 0, 0) [.inl v1] [] (px_at td_PR_feed 10 rfl) lV_PR_58 rfl rfl rfl (Nat.le_of_ble_eq_true rfl) (by decide) (k_PR_putWord hk1) ?_
    refine pw_aload_n 0 (px_at td_PR_feed 11 rfl) rfl rfl ?_
    refine pw_iload_n 2 (px_at td_PR_feed 12 rfl) rfl rfl ?_
    obtain ⟨σ2, hk2, h⟩ := px_b1_e h
    refine pw_cV0 (0, 0, 0) [.inl v2] [] (px_at td_PR_feed 13 rfl) lV_PR_58 rfl rfl rfl (Nat.le_of_ble_eq_true rfl) (by decide) (k_PR_putWord hk2) ?_
    refine pw_aload_n 0 (px_at td_PR_feed 14 rfl) rfl rfl ?_
    refine pw_iload_n 3 (px_at td_PR_feed 15 rfl) rfl rfl ?_
    obtain ⟨σ3, hk3, h⟩ := px_b1_e h
    refine pw_cV0 (0, 0, 0) [.inl v3] [] (px_at td_PR_feed 16 rfl) lV_PR_58 rfl rfl rfl (Nat.le_of_ble_eq_true rfl) (by decide) (k_PR_putWord hk3) ?_
    refine pw_aload_n 0 (px_at td_PR_feed 17 rfl) rfl rfl ?_
    refine pw_iload 4 (px_at td_PR_feed 18 rfl) rfl ?_
    obtain ⟨σ4, hk4, h⟩ := px_b1_e h
    refine pw_cV0 (0, 0, 0) [.inl v4] [] (px_at td_PR_feed 19 rfl) lV_PR_58 rfl rfl rfl (Nat.le_of_ble_eq_true rfl) (by decide) (k_PR_putWord hk4) ?_
    refine pw_aload_n 0 (px_at td_PR_feed 20 rfl) rfl rfl ?_
    refine pw_iload 5 (px_at td_PR_feed 21 rfl) rfl ?_
    obtain ⟨σ5, hk5, h⟩ := px_b1_e h
    refine pw_cV0 (0, 0, 0) [.inl v5] [] (px_at td_PR_feed 22 rfl) lV_PR_58 rfl rfl rfl (Nat.le_of_ble_eq_true rfl) (by decide) (k_PR_putWord hk5) ?_
    refine pw_aload_n 0 (px_at td_PR_feed 23 rfl) rfl rfl ?_
    refine pw_getf (v := .inl (σ5 (0, 0, 0) 7)) (px_at td_PR_feed 24 rfl) lf_PR_55 rfl rfl rfl ?_
    obtain rfl := Option.some.inj h
    exact pw_iret (px_at td_PR_feed 25 rfl) rfl (Nat.le_refl 0) (Nat.le_refl 0) hR
  · refine pw_icmp_le 15 (px_at td_PR_feed 5 rfl) (by decide) (fun hn => absurd hn hc6) (fun _ => ?_)
    refine pw_iconst (v := (-1)) (px_at td_PR_feed 6 rfl) (by decide) ?_
    obtain rfl := Option.some.inj h
    exact pw_iret (px_at td_PR_feed 7 rfl) rfl (Nat.le_refl 0) (Nat.le_refl 0) hR
theorem k_PR_feed {l : Launch} {ids : List pxI} {σ : pxS} {v1 : Int32} {v2 : Int32} {v3 : Int32} {v4 : Int32} {v5 : Int32} {res : Int32 × pxS} (h : F_PR_feed σ v1 v2 v3 v4 v5 = some res) : pm l y_PR_feed c_PR_feed 6 (some .int) (px_R 2) [.inr (some (0, 0, 0)), .inl v1, .inl v2, .inl v3, .inl v4, .inl v5] ids cG σ (px_r (some (.inl res.1)) ids cG res.2) :=
  pm_ofF (by decide +kernel) (Nat.le_of_ble_eq_true rfl) (e_PR_feed h ⟨rfl, rfl, rfl, rfl⟩)
/-! PR_forgetPast -/
def F_PR_forgetPast (σ : pxS)  : Option (pxS) :=
  px_l (px_up σ (0, 0, 0) 11 0) fun σ1 =>
  px_l (px_up σ1 (0, 0, 0) 12 0) fun σ2 =>
  some σ2
set_option maxRecDepth 100000 in
theorem e_PR_forgetPast {l : Launch} {ids : List pxI} {Rt : Option pxV → List pxI → pxG → pxS → Prop} {σ : pxS}  {res : pxS} (h : F_PR_forgetPast σ  = some res) (hR : Rt none ids cG res) : pw l (px_R 1) y_PR_forgetPast c_PR_forgetPast 1 none 0 [(0, .inr (some (0, 0, 0)))] [] ids cG σ 0 0 Rt := by
  unfold F_PR_forgetPast at h
  refine pw_aload_n 0 (px_at td_PR_forgetPast 0 rfl) rfl rfl ?_
  refine pw_iconst (v := 0) (px_at td_PR_forgetPast 1 rfl) (by decide) ?_
  obtain ⟨σ1, hσ1, h⟩ := px_l_e h
  refine pw_puti (px_at td_PR_forgetPast 2 rfl) lw_PR_303 rfl rfl (pw_s hσ1 ?_)
  refine pw_aload_n 0 (px_at td_PR_forgetPast 3 rfl) rfl rfl ?_
  refine pw_iconst (v := 0) (px_at td_PR_forgetPast 4 rfl) (by decide) ?_
  obtain ⟨σ2, hσ2, h⟩ := px_l_e h
  refine pw_puti (px_at td_PR_forgetPast 5 rfl) lw_PR_270 rfl rfl (pw_s hσ2 ?_)
  obtain rfl := Option.some.inj h
  exact pw_vret (px_at td_PR_forgetPast 6 rfl) rfl (Nat.le_refl 0) (Nat.le_refl 0) hR
theorem k_PR_forgetPast {l : Launch} {ids : List pxI} {σ : pxS}  {res : pxS} (h : F_PR_forgetPast σ  = some res) : pm l y_PR_forgetPast c_PR_forgetPast 1 none (px_R 1) [.inr (some (0, 0, 0))] ids cG σ (px_r none ids cG res) :=
  pm_ofF (by decide +kernel) (Nat.le_of_ble_eq_true rfl) (e_PR_forgetPast h ⟨rfl, rfl, rfl, rfl⟩)
/-! PR_text -/
def PR_text_n12 (σ : pxS)  : Option (Int32 × pxS) :=
  some ((-2), σ)
set_option maxRecDepth 100000 in
theorem PR_text_n12_l {l : Launch} {ids : List pxI} {Rt : Option pxV → List pxI → pxG → pxS → Prop} {σ : pxS}  {res : Int32 × pxS} (h : PR_text_n12 σ  = some res) (hR : Rt (some (.inl res.1)) ids cG res.2) : pw l (px_R 8) y_PR_text c_PR_text 4 (some .int) 12 [] [] ids cG σ 0 0 Rt := by
  unfold PR_text_n12 at h
  refine pw_bipush (v := (-2)) (px_at td_PR_text 6 rfl) (by decide) ?_
  obtain rfl := Option.some.inj h
  exact pw_iret (px_at td_PR_text 7 rfl) rfl (Nat.le_refl 0) (Nat.le_refl 0) hR
def F_PR_text (σ : pxS) (v1 : Int32) : Option (Int32 × pxS) :=
  (if v1 < 0 then PR_text_n12 σ  else (if v1 ≤ (σ (0, 0, 0) 7) then px_l (px_up σ (0, 0, 0) 7 0) fun σ1 =>
  px_b2 (F_Re_readAll σ1 v1) fun r2 σ2 =>
  px_l (px_up σ2 (0, 0, 0) 8 (σ2 (6, 0, 0) 1)) fun σ3 =>
  (if (σ3 (6, 0, 0) 1) = 0 then px_l (px_up σ3 (0, 0, 0) 9 (-1)) fun σ12 =>
  (if (σ12 (6, 0, 0) 1) = 0 then px_l (px_up σ12 (0, 0, 0) 6 (σ12 (6, 0, 0) 0)) fun σ13 =>
  px_l (px_up σ13 (6, 0, 0) 0 (σ12 (0, 0, 0) 6)) fun σ14 =>
  px_b1 (F_Pl_tieTogether σ14 (σ14 (0, 0, 0) 6)) fun σ15 =>
  px_b1 (F_Bo_start σ15 1 (σ15 (0, 0, 0) 6)) fun σ16 =>
  px_l (px_up σ16 (0, 0, 0) 10 0) fun σ17 =>
  px_b1 (F_PR_forgetPast σ17 ) fun σ18 =>
  some (r2, σ18) else some ((-1), σ12)) else px_l (px_up σ3 (0, 0, 0) 9 (σ3 (6, 0, 0) 2)) fun σ4 =>
  (if (σ4 (6, 0, 0) 1) = 0 then px_l (px_up σ4 (0, 0, 0) 6 (σ4 (6, 0, 0) 0)) fun σ5 =>
  px_l (px_up σ5 (6, 0, 0) 0 (σ4 (0, 0, 0) 6)) fun σ6 =>
  px_b1 (F_Pl_tieTogether σ6 (σ6 (0, 0, 0) 6)) fun σ7 =>
  px_b1 (F_Bo_start σ7 1 (σ7 (0, 0, 0) 6)) fun σ8 =>
  px_l (px_up σ8 (0, 0, 0) 10 0) fun σ9 =>
  px_b1 (F_PR_forgetPast σ9 ) fun σ10 =>
  some (r2, σ10) else some ((-1), σ4))) else PR_text_n12 σ ))
set_option maxRecDepth 100000 in
theorem e_PR_text {l : Launch} {ids : List pxI} {Rt : Option pxV → List pxI → pxG → pxS → Prop} {σ : pxS} {v1 : Int32} {res : Int32 × pxS} (h : F_PR_text σ v1 = some res) (hR : Rt (some (.inl res.1)) ids cG res.2) : pw l (px_R 8) y_PR_text c_PR_text 4 (some .int) 0 [(0, .inr (some (0, 0, 0))), (1, .inl v1)] [] ids cG σ 0 0 Rt := by
  unfold F_PR_text at h
  refine pw_iload_n 1 (px_at td_PR_text 0 rfl) rfl rfl ?_
  rcases px_ite h with ⟨hc22, h⟩ | ⟨hc22, h⟩
  · refine pw_if_lt 12 (px_at td_PR_text 1 rfl) (by decide) (fun _ => ?_) (fun hn => absurd hc22 hn)
    refine pw_L [] [] rfl ?_
    exact PR_text_n12_l h hR
  · refine pw_if_lt 12 (px_at td_PR_text 1 rfl) (by decide) (fun hn => absurd hn hc22) (fun _ => ?_)
    refine pw_iload_n 1 (px_at td_PR_text 2 rfl) rfl rfl ?_
    refine pw_aload_n 0 (px_at td_PR_text 3 rfl) rfl rfl ?_
    refine pw_getf (v := .inl (σ (0, 0, 0) 7)) (px_at td_PR_text 4 rfl) lf_PR_55 rfl rfl rfl ?_
    rcases px_ite h with ⟨hc21, h⟩ | ⟨hc21, h⟩
    · refine pw_icmp_le 15 (px_at td_PR_text 5 rfl) (by decide) (fun _ => ?_) (fun hn => absurd hc21 hn)
      refine pw_aload_n 0 (px_at td_PR_text 8 rfl) rfl rfl ?_
      refine pw_iconst (v := 0) (px_at td_PR_text 9 rfl) (by decide) ?_
      obtain ⟨σ1, hσ1, h⟩ := px_l_e h
      refine pw_puti (px_at td_PR_text 10 rfl) lw_PR_55 rfl rfl (pw_s hσ1 ?_)
      refine pw_aload_n 0 (px_at td_PR_text 11 rfl) rfl rfl ?_
      refine pw_getf (v := .inr (some (6, 0, 0))) (px_at td_PR_text 12 rfl) lf_PR_18 rfl rfl rfl ?_
      refine pw_iload_n 1 (px_at td_PR_text 13 rfl) rfl rfl ?_
      obtain ⟨r2, σ2, hk2, h⟩ := px_b2_e h
      refine pw_cV1 (6, 0, 0) [.inl v1] [] (px_at td_PR_text 14 rfl) lV_PR_62 rfl rfl rfl (Nat.le_of_ble_eq_true rfl) (by decide) (k_Re_readAll hk2) ?_
      refine pw_istore_n (L' := [(2, .inl r2), (0, .inr (some (0, 0, 0))), (1, .inl v1)]) (px_at td_PR_text 15 rfl) rfl (by decide) rfl ?_
      refine pw_aload_n 1 (px_at td_PR_text 16 rfl) rfl rfl ?_
      refine pw_aload_n 1 (px_at td_PR_text 17 rfl) rfl rfl ?_
      refine pw_getf (v := .inr (some (6, 0, 0))) (px_at td_PR_text 18 rfl) lf_PR_18 rfl rfl rfl ?_
      refine pw_getf (v := .inl (σ2 (6, 0, 0) 1)) (px_at td_PR_text 19 rfl) lf_PR_66 rfl rfl rfl ?_
      obtain ⟨σ3, hσ3, h⟩ := px_l_e h
      refine pw_puti (px_at td_PR_text 20 rfl) lw_PR_69 rfl rfl (pw_s hσ3 ?_)
      refine pw_aload_n 1 (px_at td_PR_text 21 rfl) rfl rfl ?_
      refine pw_aload_n 1 (px_at td_PR_text 22 rfl) rfl rfl ?_
      refine pw_getf (v := .inr (some (6, 0, 0))) (px_at td_PR_text 23 rfl) lf_PR_18 rfl rfl rfl ?_
      refine pw_getf (v := .inl (σ3 (6, 0, 0) 1)) (px_at td_PR_text 24 rfl) lf_PR_66 rfl rfl rfl ?_
      rcases px_ite h with ⟨hc20, h⟩ | ⟨hc20, h⟩
      · refine pw_if_ne 55 (px_at td_PR_text 25 rfl) (by decide) (fun hn => absurd hc20 hn) (fun _ => ?_)
        refine pw_iconst (v := (-1)) (px_at td_PR_text 26 rfl) (by decide) ?_
        refine pw_goto 62 (px_at td_PR_text 27 rfl) (by decide) ?_
        obtain ⟨σ12, hσ12, h⟩ := px_l_e h
        refine pw_puti (px_at td_PR_text 31 rfl) lw_PR_35 rfl rfl (pw_s hσ12 ?_)
        refine pw_aload_n 1 (px_at td_PR_text 32 rfl) rfl rfl ?_
        refine pw_getf (v := .inr (some (6, 0, 0))) (px_at td_PR_text 33 rfl) lf_PR_18 rfl rfl rfl ?_
        refine pw_getf (v := .inl (σ12 (6, 0, 0) 1)) (px_at td_PR_text 34 rfl) lf_PR_66 rfl rfl rfl ?_
        rcases px_ite h with ⟨hc19, h⟩ | ⟨hc19, h⟩
        · refine pw_if_eq 77 (px_at td_PR_text 35 rfl) (by decide) (fun _ => ?_) (fun hn => absurd hc19 hn)
          refine pw_aload_n 1 (px_at td_PR_text 38 rfl) rfl rfl ?_
          refine pw_getf (v := .inr (some (1, (σ12 (0, 0, 0) 6).toNatClampNeg, 0))) (px_at td_PR_text 39 rfl) lf_PR_31 rfl rfl rfl ?_
          refine pw_astore_n (L' := [(3, .inr (some (1, (σ12 (0, 0, 0) 6).toNatClampNeg, 0))), (2, .inl r2), (0, .inr (some (0, 0, 0))), (1, .inl v1)]) (px_at td_PR_text 40 rfl) rfl (by decide) rfl ?_
          refine pw_aload_n 2 (px_at td_PR_text 41 rfl) rfl rfl ?_
          refine pw_aload_n 2 (px_at td_PR_text 42 rfl) rfl rfl ?_
          refine pw_getf (v := .inr (some (6, 0, 0))) (px_at td_PR_text 43 rfl) lf_PR_18 rfl rfl rfl ?_
          refine pw_getf (v := .inr (some (1, (σ12 (6, 0, 0) 0).toNatClampNeg, 0))) (px_at td_PR_text 44 rfl) lf_PR_75 rfl rfl rfl ?_
          obtain ⟨σ13, hσ13, h⟩ := px_l_e h
          refine pw_putr (σ12 (6, 0, 0) 0) (px_at td_PR_text 45 rfl) lw_PR_31 rfl rfl (pw_s hσ13 ?_)
          refine pw_aload_n 2 (px_at td_PR_text 46 rfl) rfl rfl ?_
          refine pw_getf (v := .inr (some (6, 0, 0))) (px_at td_PR_text 47 rfl) lf_PR_18 rfl rfl rfl ?_
          refine pw_aload_n 0 (px_at td_PR_text 48 rfl) rfl rfl ?_
          obtain ⟨σ14, hσ14, h⟩ := px_l_e h
          refine pw_putr (σ12 (0, 0, 0) 6) (px_at td_PR_text 49 rfl) lw_PR_75 rfl rfl (pw_s hσ14 ?_)
          refine pw_aload_n 2 (px_at td_PR_text 50 rfl) rfl rfl ?_
          refine pw_getf (v := .inr (some (1, (σ14 (0, 0, 0) 6).toNatClampNeg, 0))) (px_at td_PR_text 51 rfl) lf_PR_31 rfl rfl rfl ?_
          obtain ⟨σ15, hk15, h⟩ := px_b1_e h
          refine pw_cV0 (1, (σ14 (0, 0, 0) 6).toNatClampNeg, 0) [] [] (px_at td_PR_text 52 rfl) lV_PR_76 rfl rfl rfl (Nat.le_of_ble_eq_true rfl) (by decide) (k_Pl_tieTogether hk15) ?_
          refine pw_aload_n 2 (px_at td_PR_text 53 rfl) rfl rfl ?_
          refine pw_getf (v := .inr (some (2, 1, 0))) (px_at td_PR_text 54 rfl) lf_PR_49 rfl rfl rfl ?_
          refine pw_aload_n 2 (px_at td_PR_text 55 rfl) rfl rfl ?_
          refine pw_getf (v := .inr (some (1, (σ15 (0, 0, 0) 6).toNatClampNeg, 0))) (px_at td_PR_text 56 rfl) lf_PR_31 rfl rfl rfl ?_
          obtain ⟨σ16, hk16, h⟩ := px_b1_e h
          refine pw_cV0 (2, 1, 0) [.inr (some (1, (σ15 (0, 0, 0) 6).toNatClampNeg, 0))] [] (px_at td_PR_text 57 rfl) lV_PR_79 rfl rfl rfl (Nat.le_of_ble_eq_true rfl) (by decide) (k_Bo_start hk16) ?_
          refine pw_aload_n 2 (px_at td_PR_text 58 rfl) rfl rfl ?_
          refine pw_iconst (v := 0) (px_at td_PR_text 59 rfl) (by decide) ?_
          obtain ⟨σ17, hσ17, h⟩ := px_l_e h
          refine pw_putz (px_at td_PR_text 60 rfl) lw_PR_82 rfl rfl (by decide) (pw_s hσ17 ?_)
          refine pw_aload_n 2 (px_at td_PR_text 61 rfl) rfl rfl ?_
          obtain ⟨σ18, hk18, h⟩ := px_b1_e h
          refine pw_cV0 (0, 0, 0) [] [] (px_at td_PR_text 62 rfl) lV_PR_86 rfl rfl rfl (Nat.le_of_ble_eq_true rfl) (by decide) (k_PR_forgetPast hk18) ?_
          refine pw_iload_n 1 (px_at td_PR_text 63 rfl) rfl rfl ?_
          obtain rfl := Option.some.inj h
          exact pw_iret (px_at td_PR_text 64 rfl) rfl (Nat.le_refl 0) (Nat.le_refl 0) hR
        · refine pw_if_eq 77 (px_at td_PR_text 35 rfl) (by decide) (fun hn => absurd hn hc19) (fun _ => ?_)
          refine pw_iconst (v := (-1)) (px_at td_PR_text 36 rfl) (by decide) ?_
          obtain rfl := Option.some.inj h
          exact pw_iret (px_at td_PR_text 37 rfl) rfl (Nat.le_refl 0) (Nat.le_refl 0) hR
      · refine pw_if_ne 55 (px_at td_PR_text 25 rfl) (by decide) (fun _ => ?_) (fun hn => absurd hn hc20)
        refine pw_aload_n 1 (px_at td_PR_text 28 rfl) rfl rfl ?_
        refine pw_getf (v := .inr (some (6, 0, 0))) (px_at td_PR_text 29 rfl) lf_PR_18 rfl rfl rfl ?_
        refine pw_getf (v := .inl (σ3 (6, 0, 0) 2)) (px_at td_PR_text 30 rfl) lf_PR_72 rfl rfl rfl ?_
        obtain ⟨σ4, hσ4, h⟩ := px_l_e h
        refine pw_puti (px_at td_PR_text 31 rfl) lw_PR_35 rfl rfl (pw_s hσ4 ?_)
        refine pw_aload_n 1 (px_at td_PR_text 32 rfl) rfl rfl ?_
        refine pw_getf (v := .inr (some (6, 0, 0))) (px_at td_PR_text 33 rfl) lf_PR_18 rfl rfl rfl ?_
        refine pw_getf (v := .inl (σ4 (6, 0, 0) 1)) (px_at td_PR_text 34 rfl) lf_PR_66 rfl rfl rfl ?_
        rcases px_ite h with ⟨hc11, h⟩ | ⟨hc11, h⟩
        · refine pw_if_eq 77 (px_at td_PR_text 35 rfl) (by decide) (fun _ => ?_) (fun hn => absurd hc11 hn)
          refine pw_aload_n 1 (px_at td_PR_text 38 rfl) rfl rfl ?_
          refine pw_getf (v := .inr (some (1, (σ4 (0, 0, 0) 6).toNatClampNeg, 0))) (px_at td_PR_text 39 rfl) lf_PR_31 rfl rfl rfl ?_
          refine pw_astore_n (L' := [(3, .inr (some (1, (σ4 (0, 0, 0) 6).toNatClampNeg, 0))), (2, .inl r2), (0, .inr (some (0, 0, 0))), (1, .inl v1)]) (px_at td_PR_text 40 rfl) rfl (by decide) rfl ?_
          refine pw_aload_n 2 (px_at td_PR_text 41 rfl) rfl rfl ?_
          refine pw_aload_n 2 (px_at td_PR_text 42 rfl) rfl rfl ?_
          refine pw_getf (v := .inr (some (6, 0, 0))) (px_at td_PR_text 43 rfl) lf_PR_18 rfl rfl rfl ?_
          refine pw_getf (v := .inr (some (1, (σ4 (6, 0, 0) 0).toNatClampNeg, 0))) (px_at td_PR_text 44 rfl) lf_PR_75 rfl rfl rfl ?_
          obtain ⟨σ5, hσ5, h⟩ := px_l_e h
          refine pw_putr (σ4 (6, 0, 0) 0) (px_at td_PR_text 45 rfl) lw_PR_31 rfl rfl (pw_s hσ5 ?_)
          refine pw_aload_n 2 (px_at td_PR_text 46 rfl) rfl rfl ?_
          refine pw_getf (v := .inr (some (6, 0, 0))) (px_at td_PR_text 47 rfl) lf_PR_18 rfl rfl rfl ?_
          refine pw_aload_n 0 (px_at td_PR_text 48 rfl) rfl rfl ?_
          obtain ⟨σ6, hσ6, h⟩ := px_l_e h
          refine pw_putr (σ4 (0, 0, 0) 6) (px_at td_PR_text 49 rfl) lw_PR_75 rfl rfl (pw_s hσ6 ?_)
          refine pw_aload_n 2 (px_at td_PR_text 50 rfl) rfl rfl ?_
          refine pw_getf (v := .inr (some (1, (σ6 (0, 0, 0) 6).toNatClampNeg, 0))) (px_at td_PR_text 51 rfl) lf_PR_31 rfl rfl rfl ?_
          obtain ⟨σ7, hk7, h⟩ := px_b1_e h
          refine pw_cV0 (1, (σ6 (0, 0, 0) 6).toNatClampNeg, 0) [] [] (px_at td_PR_text 52 rfl) lV_PR_76 rfl rfl rfl (Nat.le_of_ble_eq_true rfl) (by decide) (k_Pl_tieTogether hk7) ?_
          refine pw_aload_n 2 (px_at td_PR_text 53 rfl) rfl rfl ?_
          refine pw_getf (v := .inr (some (2, 1, 0))) (px_at td_PR_text 54 rfl) lf_PR_49 rfl rfl rfl ?_
          refine pw_aload_n 2 (px_at td_PR_text 55 rfl) rfl rfl ?_
          refine pw_getf (v := .inr (some (1, (σ7 (0, 0, 0) 6).toNatClampNeg, 0))) (px_at td_PR_text 56 rfl) lf_PR_31 rfl rfl rfl ?_
          obtain ⟨σ8, hk8, h⟩ := px_b1_e h
          refine pw_cV0 (2, 1, 0) [.inr (some (1, (σ7 (0, 0, 0) 6).toNatClampNeg, 0))] [] (px_at td_PR_text 57 rfl) lV_PR_79 rfl rfl rfl (Nat.le_of_ble_eq_true rfl) (by decide) (k_Bo_start hk8) ?_
          refine pw_aload_n 2 (px_at td_PR_text 58 rfl) rfl rfl ?_
          refine pw_iconst (v := 0) (px_at td_PR_text 59 rfl) (by decide) ?_
          obtain ⟨σ9, hσ9, h⟩ := px_l_e h
          refine pw_putz (px_at td_PR_text 60 rfl) lw_PR_82 rfl rfl (by decide) (pw_s hσ9 ?_)
          refine pw_aload_n 2 (px_at td_PR_text 61 rfl) rfl rfl ?_
          obtain ⟨σ10, hk10, h⟩ := px_b1_e h
          refine pw_cV0 (0, 0, 0) [] [] (px_at td_PR_text 62 rfl) lV_PR_86 rfl rfl rfl (Nat.le_of_ble_eq_true rfl) (by decide) (k_PR_forgetPast hk10) ?_
          refine pw_iload_n 1 (px_at td_PR_text 63 rfl) rfl rfl ?_
          obtain rfl := Option.some.inj h
          exact pw_iret (px_at td_PR_text 64 rfl) rfl (Nat.le_refl 0) (Nat.le_refl 0) hR
        · refine pw_if_eq 77 (px_at td_PR_text 35 rfl) (by decide) (fun hn => absurd hn hc11) (fun _ => ?_)
          refine pw_iconst (v := (-1)) (px_at td_PR_text 36 rfl) (by decide) ?_
          obtain rfl := Option.some.inj h
          exact pw_iret (px_at td_PR_text 37 rfl) rfl (Nat.le_refl 0) (Nat.le_refl 0) hR
    · refine pw_icmp_le 15 (px_at td_PR_text 5 rfl) (by decide) (fun hn => absurd hn hc21) (fun _ => ?_)
      refine pw_L [] [] rfl ?_
      exact PR_text_n12_l h hR
theorem k_PR_text {l : Launch} {ids : List pxI} {σ : pxS} {v1 : Int32} {res : Int32 × pxS} (h : F_PR_text σ v1 = some res) : pm l y_PR_text c_PR_text 4 (some .int) (px_R 8) [.inr (some (0, 0, 0)), .inl v1] ids cG σ (px_r (some (.inl res.1)) ids cG res.2) :=
  pm_ofF (by decide +kernel) (Nat.le_of_ble_eq_true rfl) (e_PR_text h ⟨rfl, rfl, rfl, rfl⟩)
/-! PR_fault -/
def F_PR_fault (σ : pxS) (v1 : Int32) : Option (Int32) :=
  (if v1 = 0 then some ((σ (0, 0, 0) 8)) else (if v1 = 1 then some ((σ (0, 0, 0) 9)) else some ((-1))))
set_option maxRecDepth 100000 in
theorem e_PR_fault {l : Launch} {ids : List pxI} {Rt : Option pxV → List pxI → pxG → pxS → Prop} {σ : pxS} {v1 : Int32} {res : Int32} (h : F_PR_fault σ v1 = some res) (hR : Rt (some (.inl res)) ids cG σ) : pw l (px_R 1) y_PR_fault c_PR_fault 2 (some .int) 0 [(0, .inr (some (0, 0, 0))), (1, .inl v1)] [] ids cG σ 0 0 Rt := by
  unfold F_PR_fault at h
  refine pw_iload_n 1 (px_at td_PR_fault 0 rfl) rfl rfl ?_
  rcases px_ite h with ⟨hs1_0, h⟩ | ⟨hs1_0, h⟩
  · refine pw_look (off := 27) 28 (px_at td_PR_fault 1 rfl) (by decide) (px_look2 (Or.inl ⟨hs1_0, rfl⟩)) (by decide) ?_
    refine pw_aload_n 0 (px_at td_PR_fault 2 rfl) rfl rfl ?_
    refine pw_getf (v := .inl (σ (0, 0, 0) 8)) (px_at td_PR_fault 3 rfl) lf_PR_69 rfl rfl rfl ?_
    obtain rfl := Option.some.inj h
    exact pw_iret (px_at td_PR_fault 4 rfl) rfl (Nat.le_refl 0) (Nat.le_refl 0) hR
  · have hd1_0 := trivial
    rcases px_ite h with ⟨hs1_1, h⟩ | ⟨hs1_1, h⟩
    · refine pw_look (off := 32) 33 (px_at td_PR_fault 1 rfl) (by decide) (px_look2 (Or.inr (Or.inl ⟨hs1_1, rfl⟩))) (by decide) ?_
      refine pw_aload_n 0 (px_at td_PR_fault 5 rfl) rfl rfl ?_
      refine pw_getf (v := .inl (σ (0, 0, 0) 9)) (px_at td_PR_fault 6 rfl) lf_PR_35 rfl rfl rfl ?_
      obtain rfl := Option.some.inj h
      exact pw_iret (px_at td_PR_fault 7 rfl) rfl (Nat.le_refl 0) (Nat.le_refl 0) hR
    · have hd1_1 := trivial
      refine pw_look (off := 37) 38 (px_at td_PR_fault 1 rfl) (by decide) (px_look2 (Or.inr (Or.inr ⟨hs1_0, hs1_1, rfl⟩))) (by decide) ?_
      refine pw_iconst (v := (-1)) (px_at td_PR_fault 8 rfl) (by decide) ?_
      obtain rfl := Option.some.inj h
      exact pw_iret (px_at td_PR_fault 9 rfl) rfl (Nat.le_refl 0) (Nat.le_refl 0) hR
theorem k_PR_fault {l : Launch} {ids : List pxI} {σ : pxS} {v1 : Int32} {res : Int32} (h : F_PR_fault σ v1 = some res) : pm l y_PR_fault c_PR_fault 2 (some .int) (px_R 1) [.inr (some (0, 0, 0)), .inl v1] ids cG σ (px_r (some (.inl res)) ids cG σ) :=
  pm_ofF (by decide +kernel) (Nat.le_of_ble_eq_true rfl) (e_PR_fault h ⟨rfl, rfl, rfl, rfl⟩)
/-! PR_named -/
def F_PR_named (σ : pxS) (v1 : Int32) : Option (Int32) :=
  px_b1 (F_Pl_find σ (σ (0, 0, 0) 6) v1) fun r1 =>
  some (r1)
set_option maxRecDepth 100000 in
theorem e_PR_named {l : Launch} {ids : List pxI} {Rt : Option pxV → List pxI → pxG → pxS → Prop} {σ : pxS} {v1 : Int32} {res : Int32} (h : F_PR_named σ v1 = some res) (hR : Rt (some (.inl res)) ids cG σ) : pw l (px_R 2) y_PR_named c_PR_named 2 (some .int) 0 [(0, .inr (some (0, 0, 0))), (1, .inl v1)] [] ids cG σ 0 0 Rt := by
  unfold F_PR_named at h
  refine pw_aload_n 0 (px_at td_PR_named 0 rfl) rfl rfl ?_
  refine pw_getf (v := .inr (some (1, (σ (0, 0, 0) 6).toNatClampNeg, 0))) (px_at td_PR_named 1 rfl) lf_PR_31 rfl rfl rfl ?_
  refine pw_iload_n 1 (px_at td_PR_named 2 rfl) rfl rfl ?_
  obtain ⟨r1, hk1, h⟩ := px_b1_e h
  refine pw_cV1 (1, (σ (0, 0, 0) 6).toNatClampNeg, 0) [.inl v1] [] (px_at td_PR_named 3 rfl) lV_PR_89 rfl rfl rfl (Nat.le_of_ble_eq_true rfl) (by decide) (k_Pl_find hk1) ?_
  obtain rfl := Option.some.inj h
  exact pw_iret (px_at td_PR_named 4 rfl) rfl (Nat.le_refl 0) (Nat.le_refl 0) hR
theorem k_PR_named {l : Launch} {ids : List pxI} {σ : pxS} {v1 : Int32} {res : Int32} (h : F_PR_named σ v1 = some res) : pm l y_PR_named c_PR_named 2 (some .int) (px_R 2) [.inr (some (0, 0, 0)), .inl v1] ids cG σ (px_r (some (.inl res)) ids cG σ) :=
  pm_ofF (by decide +kernel) (Nat.le_of_ble_eq_true rfl) (e_PR_named h ⟨rfl, rfl, rfl, rfl⟩)
/-! PR_remember -/
def PR_remember_n32 (σ : pxS)  : Option (pxS) :=
  px_gd (((σ (0, 0, 0) 11) + (σ (0, 0, 0) 12)) - ((σ (0, 0, 0) 11) + (σ (0, 0, 0) 12)) / 20 * 20) 20 (px_b1 (F_Bo_copyFrom σ ((((σ (0, 0, 0) 11) + (σ (0, 0, 0) 12)) - ((σ (0, 0, 0) 11) + (σ (0, 0, 0) 12)) / 20 * 20).toNatClampNeg + 3) 1) fun σ2 =>
  px_l (px_up σ2 (0, 0, 0) 12 ((σ2 (0, 0, 0) 12) + 1)) fun σ3 =>
  some σ3)
set_option maxRecDepth 100000 in
theorem PR_remember_n32_l {l : Launch} {ids : List pxI} {Rt : Option pxV → List pxI → pxG → pxS → Prop} {σ : pxS}  {res : pxS} (h : PR_remember_n32 σ  = some res) (hR : Rt none ids cG res) : pw l (px_R 3) y_PR_remember c_PR_remember 1 none 32 [(0, .inr (some (0, 0, 0)))] [] ids cG σ 0 0 Rt := by
  unfold PR_remember_n32 at h
  refine pw_aload_n 0 (px_at td_PR_remember 18 rfl) rfl rfl ?_
  refine pw_getf (v := .inr (some (7, 0, 0))) (px_at td_PR_remember 19 rfl) lf_PR_24 rfl rfl rfl ?_
  refine pw_aload_n 0 (px_at td_PR_remember 20 rfl) rfl rfl ?_
  refine pw_getf (v := .inl (σ (0, 0, 0) 11)) (px_at td_PR_remember 21 rfl) lf_PR_303 rfl rfl rfl ?_
  refine pw_aload_n 0 (px_at td_PR_remember 22 rfl) rfl rfl ?_
  refine pw_getf (v := .inl (σ (0, 0, 0) 12)) (px_at td_PR_remember 23 rfl) lf_PR_270 rfl rfl rfl ?_
  refine pw_iadd (px_at td_PR_remember 24 rfl) ?_
  refine pw_bipush (v := 20) (px_at td_PR_remember 25 rfl) (by decide) ?_
  refine pw_irem (px_at td_PR_remember 26 rfl) (by decide) ?_
  obtain ⟨hi1, h⟩ := px_gd_e h
  refine pw_aald (r := (2, (((σ (0, 0, 0) 11) + (σ (0, 0, 0) 12)) - ((σ (0, 0, 0) 11) + (σ (0, 0, 0) 12)) / 20 * 20).toNatClampNeg + 3, 0)) (px_at td_PR_remember 27 rfl) rfl (fun _ => rfl) hi1 rfl ?_
  refine pw_aload_n 0 (px_at td_PR_remember 28 rfl) rfl rfl ?_
  refine pw_getf (v := .inr (some (2, 1, 0))) (px_at td_PR_remember 29 rfl) lf_PR_49 rfl rfl rfl ?_
  obtain ⟨σ2, hk2, h⟩ := px_b1_e h
  refine pw_cV0 (2, (((σ (0, 0, 0) 11) + (σ (0, 0, 0) 12)) - ((σ (0, 0, 0) 11) + (σ (0, 0, 0) 12)) / 20 * 20).toNatClampNeg + 3, 0) [.inr (some (2, 1, 0))] [] (px_at td_PR_remember 30 rfl) lV_PR_273 rfl rfl rfl (Nat.le_of_ble_eq_true rfl) (by decide) (k_Bo_copyFrom hk2) ?_
  refine pw_aload_n 0 (px_at td_PR_remember 31 rfl) rfl rfl ?_
  refine pw_dup (px_at td_PR_remember 32 rfl) ?_
  refine pw_getf (v := .inl (σ2 (0, 0, 0) 12)) (px_at td_PR_remember 33 rfl) lf_PR_270 rfl rfl rfl ?_
  refine pw_iconst (v := 1) (px_at td_PR_remember 34 rfl) (by decide) ?_
  refine pw_iadd (px_at td_PR_remember 35 rfl) ?_
  obtain ⟨σ3, hσ3, h⟩ := px_l_e h
  refine pw_puti (px_at td_PR_remember 36 rfl) lw_PR_270 rfl rfl (pw_s hσ3 ?_)
  obtain rfl := Option.some.inj h
  exact pw_vret (px_at td_PR_remember 37 rfl) rfl (Nat.le_refl 0) (Nat.le_refl 0) hR
def F_PR_remember (σ : pxS)  : Option (pxS) :=
  (if (σ (0, 0, 0) 12) = 20 then px_l (px_up σ (0, 0, 0) 11 (((σ (0, 0, 0) 11) + 1) - ((σ (0, 0, 0) 11) + 1) / 20 * 20)) fun σ4 =>
  px_l (px_up σ4 (0, 0, 0) 12 ((σ4 (0, 0, 0) 12) - 1)) fun σ5 =>
  PR_remember_n32 σ5  else PR_remember_n32 σ )
set_option maxRecDepth 100000 in
theorem e_PR_remember {l : Launch} {ids : List pxI} {Rt : Option pxV → List pxI → pxG → pxS → Prop} {σ : pxS}  {res : pxS} (h : F_PR_remember σ  = some res) (hR : Rt none ids cG res) : pw l (px_R 3) y_PR_remember c_PR_remember 1 none 0 [(0, .inr (some (0, 0, 0)))] [] ids cG σ 0 0 Rt := by
  unfold F_PR_remember at h
  refine pw_aload_n 0 (px_at td_PR_remember 0 rfl) rfl rfl ?_
  refine pw_getf (v := .inl (σ (0, 0, 0) 12)) (px_at td_PR_remember 1 rfl) lf_PR_270 rfl rfl rfl ?_
  refine pw_bipush (v := 20) (px_at td_PR_remember 2 rfl) (by decide) ?_
  rcases px_ite h with ⟨hc6, h⟩ | ⟨hc6, h⟩
  · refine pw_icmp_ne 32 (px_at td_PR_remember 3 rfl) (by decide) (fun hn => absurd hc6 hn) (fun _ => ?_)
    refine pw_aload_n 0 (px_at td_PR_remember 4 rfl) rfl rfl ?_
    refine pw_aload_n 0 (px_at td_PR_remember 5 rfl) rfl rfl ?_
    refine pw_getf (v := .inl (σ (0, 0, 0) 11)) (px_at td_PR_remember 6 rfl) lf_PR_303 rfl rfl rfl ?_
    refine pw_iconst (v := 1) (px_at td_PR_remember 7 rfl) (by decide) ?_
    refine pw_iadd (px_at td_PR_remember 8 rfl) ?_
    refine pw_bipush (v := 20) (px_at td_PR_remember 9 rfl) (by decide) ?_
    refine pw_irem (px_at td_PR_remember 10 rfl) (by decide) ?_
    obtain ⟨σ4, hσ4, h⟩ := px_l_e h
    refine pw_puti (px_at td_PR_remember 11 rfl) lw_PR_303 rfl rfl (pw_s hσ4 ?_)
    refine pw_aload_n 0 (px_at td_PR_remember 12 rfl) rfl rfl ?_
    refine pw_dup (px_at td_PR_remember 13 rfl) ?_
    refine pw_getf (v := .inl (σ4 (0, 0, 0) 12)) (px_at td_PR_remember 14 rfl) lf_PR_270 rfl rfl rfl ?_
    refine pw_iconst (v := 1) (px_at td_PR_remember 15 rfl) (by decide) ?_
    refine pw_isub (px_at td_PR_remember 16 rfl) ?_
    obtain ⟨σ5, hσ5, h⟩ := px_l_e h
    refine pw_puti (px_at td_PR_remember 17 rfl) lw_PR_270 rfl rfl (pw_s hσ5 ?_)
    exact PR_remember_n32_l h hR
  · refine pw_icmp_ne 32 (px_at td_PR_remember 3 rfl) (by decide) (fun _ => ?_) (fun hn => absurd hn hc6)
    exact PR_remember_n32_l h hR
theorem k_PR_remember {l : Launch} {ids : List pxI} {σ : pxS}  {res : pxS} (h : F_PR_remember σ  = some res) : pm l y_PR_remember c_PR_remember 1 none (px_R 3) [.inr (some (0, 0, 0))] ids cG σ (px_r none ids cG res) :=
  pm_ofF (by decide +kernel) (Nat.le_of_ble_eq_true rfl) (e_PR_remember h ⟨rfl, rfl, rfl, rfl⟩)
/-! PR_tick -/
def PR_tick_n11 (σ : pxS)  : Option (Int32 × pxS) :=
  some ((-1), σ)
set_option maxRecDepth 100000 in
theorem PR_tick_n11_l {l : Launch} {ids : List pxI} {Rt : Option pxV → List pxI → pxG → pxS → Prop} {σ : pxS}  {res : Int32 × pxS} (h : PR_tick_n11 σ  = some res) (hR : Rt (some (.inl res.1)) ids cG res.2) : pw l (px_R 7) y_PR_tick c_PR_tick 3 (some .int) 11 [] [] ids cG σ 0 0 Rt := by
  unfold PR_tick_n11 at h
  refine pw_iconst (v := (-1)) (px_at td_PR_tick 6 rfl) (by decide) ?_
  obtain rfl := Option.some.inj h
  exact pw_iret (px_at td_PR_tick 7 rfl) rfl (Nat.le_refl 0) (Nat.le_refl 0) hR
def PR_tick_n37 (σ : pxS) (v1 : Int32) (v2 : Int32) : Option ((Int32 × pxS) ⊕ (pxS)) :=
  (if v1 ≤ v2 then some (.inr σ) else px_b1 (F_Bo_pass σ 1) fun σ2 =>
  some (.inl ((v2 + 1), σ2)))
set_option maxRecDepth 100000 in
theorem PR_tick_n37_l {l : Launch} {ids : List pxI} {Rt : Option pxV → List pxI → pxG → pxS → Prop} {σ : pxS} {v1 : Int32} {v2 : Int32} {o : (Int32 × pxS) ⊕ (pxS)} (h : PR_tick_n37 σ v1 v2 = some o) (hC : ∀ s, o = .inl s → pw l (px_R 7) y_PR_tick c_PR_tick 3 (some .int) 37 [(0, .inr (some (0, 0, 0))), (1, .inl v1), (2, .inl s.1)] [] ids cG s.2 0 0 Rt) (hX0 : ∀ e, o = .inr e → pw l (px_R 7) y_PR_tick c_PR_tick 3 (some .int) 55 [(0, .inr (some (0, 0, 0)))] [] ids cG e 0 0 Rt) : pw l (px_R 7) y_PR_tick c_PR_tick 3 (some .int) 37 [(0, .inr (some (0, 0, 0))), (1, .inl v1), (2, .inl v2)] [] ids cG σ 0 0 Rt := by
  unfold PR_tick_n37 at h
  refine pw_iload_n 2 (px_at td_PR_tick 21 rfl) rfl rfl ?_
  refine pw_iload_n 1 (px_at td_PR_tick 22 rfl) rfl rfl ?_
  rcases px_ite h with ⟨hc3, h⟩ | ⟨hc3, h⟩
  · refine pw_icmp_ge 55 (px_at td_PR_tick 23 rfl) (by decide) (fun _ => ?_) (fun hn => absurd hc3 hn)
    refine pw_L [(0, .inr (some (0, 0, 0)))] [0] rfl ?_
    exact hX0 σ (Option.some.inj h).symm
  · refine pw_icmp_ge 55 (px_at td_PR_tick 23 rfl) (by decide) (fun hn => absurd hn hc3) (fun _ => ?_)
    refine pw_aload_n 0 (px_at td_PR_tick 24 rfl) rfl rfl ?_
    refine pw_getf (v := .inr (some (2, 1, 0))) (px_at td_PR_tick 25 rfl) lf_PR_49 rfl rfl rfl ?_
    obtain ⟨σ2, hk2, h⟩ := px_b1_e h
    refine pw_cV0 (2, 1, 0) [] [] (px_at td_PR_tick 26 rfl) lV_PR_98 rfl rfl rfl (Nat.le_of_ble_eq_true rfl) (by decide) (k_Bo_pass hk2) ?_
    refine pw_iinc (q := 2) (v := (v2 + 1)) (L' := [(2, .inl (v2 + 1)), (0, .inr (some (0, 0, 0))), (1, .inl v1)]) (px_at td_PR_tick 27 rfl) rfl rfl (by decide) rfl ?_
    refine pw_goto 37 (px_at td_PR_tick 28 rfl) (by decide) ?_
    refine pw_L [(0, .inr (some (0, 0, 0))), (1, .inl v1), (2, .inl (v2 + 1))] [1, 2, 0] rfl ?_
    exact hC ((v2 + 1), σ2) (Option.some.inj h).symm
def PR_tick_L37 (v1 : Int32) : (Int32 × pxS) → Option ((Int32 × pxS) ⊕ (pxS)) := fun s => PR_tick_n37 s.2 v1 s.1
set_option maxRecDepth 100000 in
theorem PR_tick_L37_l {l : Launch} {ids : List pxI} {Rt : Option pxV → List pxI → pxG → pxS → Prop} {v1 : Int32} {n : Nat} {s : Int32 × pxS} {e : pxS} (h : px_it (PR_tick_L37 v1) n s = some e) (hX0 : pw l (px_R 7) y_PR_tick c_PR_tick 3 (some .int) 55 [(0, .inr (some (0, 0, 0)))] [] ids cG e 0 0 Rt) : pw l (px_R 7) y_PR_tick c_PR_tick 3 (some .int) 37 [(0, .inr (some (0, 0, 0))), (1, .inl v1), (2, .inl s.1)] [] ids cG s.2 0 0 Rt := by
  refine px_it_rule (f := PR_tick_L37 v1) (C := fun s => pw l (px_R 7) y_PR_tick c_PR_tick 3 (some .int) 37 [(0, .inr (some (0, 0, 0))), (1, .inl v1), (2, .inl s.1)] [] ids cG s.2 0 0 Rt) (X := fun e => (pw l (px_R 7) y_PR_tick c_PR_tick 3 (some .int) 55 [(0, .inr (some (0, 0, 0)))] [] ids cG e 0 0 Rt)) ?_ ?_ n s e h hX0
  · intro s s1 hf hC
    exact PR_tick_n37_l hf (fun s2 hs => by cases hs; exact hC) (fun e he => by cases he)
  · intro s e hf hX
    exact PR_tick_n37_l hf (fun s2 hs => by cases hs) (fun e1 he => by cases he; exact hX)
def F_PR_tick (σ : pxS) (v1 : Int32) : Option (Int32 × pxS) :=
  (if v1 < 1 then PR_tick_n11 σ  else (if v1 ≤ 50 then (if ((σ (2, 1, 0) 5) + v1) ≤ 9999 then px_b1 (F_PR_remember σ ) fun σ1 =>
  px_b1 (px_it (PR_tick_L37 v1) px_N (0, σ1)) fun e4 =>
  some ((e4 (2, 1, 0) 5), e4) else some ((-2), σ)) else PR_tick_n11 σ ))
set_option maxRecDepth 100000 in
theorem e_PR_tick {l : Launch} {ids : List pxI} {Rt : Option pxV → List pxI → pxG → pxS → Prop} {σ : pxS} {v1 : Int32} {res : Int32 × pxS} (h : F_PR_tick σ v1 = some res) (hR : Rt (some (.inl res.1)) ids cG res.2) : pw l (px_R 7) y_PR_tick c_PR_tick 3 (some .int) 0 [(0, .inr (some (0, 0, 0))), (1, .inl v1)] [] ids cG σ 0 0 Rt := by
  unfold F_PR_tick at h
  refine pw_iload_n 1 (px_at td_PR_tick 0 rfl) rfl rfl ?_
  refine pw_iconst (v := 1) (px_at td_PR_tick 1 rfl) (by decide) ?_
  rcases px_ite h with ⟨hc7, h⟩ | ⟨hc7, h⟩
  · refine pw_icmp_lt 11 (px_at td_PR_tick 2 rfl) (by decide) (fun _ => ?_) (fun hn => absurd hc7 hn)
    refine pw_L [] [] rfl ?_
    exact PR_tick_n11_l h hR
  · refine pw_icmp_lt 11 (px_at td_PR_tick 2 rfl) (by decide) (fun hn => absurd hn hc7) (fun _ => ?_)
    refine pw_iload_n 1 (px_at td_PR_tick 3 rfl) rfl rfl ?_
    refine pw_bipush (v := 50) (px_at td_PR_tick 4 rfl) (by decide) ?_
    rcases px_ite h with ⟨hc6, h⟩ | ⟨hc6, h⟩
    · refine pw_icmp_le 13 (px_at td_PR_tick 5 rfl) (by decide) (fun _ => ?_) (fun hn => absurd hc6 hn)
      refine pw_aload_n 0 (px_at td_PR_tick 8 rfl) rfl rfl ?_
      refine pw_getf (v := .inr (some (2, 1, 0))) (px_at td_PR_tick 9 rfl) lf_PR_49 rfl rfl rfl ?_
      refine pw_getf (v := .inl (σ (2, 1, 0) 5)) (px_at td_PR_tick 10 rfl) lf_PR_92 rfl rfl rfl ?_
      refine pw_iload_n 1 (px_at td_PR_tick 11 rfl) rfl rfl ?_
      refine pw_iadd (px_at td_PR_tick 12 rfl) ?_
      refine pw_sipush (v := 9999) (px_at td_PR_tick 13 rfl) (by decide) ?_
      rcases px_ite h with ⟨hc5, h⟩ | ⟨hc5, h⟩
      · refine pw_icmp_le 31 (px_at td_PR_tick 14 rfl) (by decide) (fun _ => ?_) (fun hn => absurd hc5 hn)
        refine pw_aload_n 0 (px_at td_PR_tick 17 rfl) rfl rfl ?_
        obtain ⟨σ1, hk1, h⟩ := px_b1_e h
        refine pw_cV0 (0, 0, 0) [] [] (px_at td_PR_tick 18 rfl) lV_PR_95 rfl rfl rfl (Nat.le_of_ble_eq_true rfl) (by decide) (k_PR_remember hk1) ?_
        refine pw_iconst (v := 0) (px_at td_PR_tick 19 rfl) (by decide) ?_
        refine pw_istore_n (L' := [(2, .inl 0), (0, .inr (some (0, 0, 0))), (1, .inl v1)]) (px_at td_PR_tick 20 rfl) rfl (by decide) rfl ?_
        obtain ⟨e4, he4, h⟩ := px_b1_e h
        refine pw_L [(0, .inr (some (0, 0, 0))), (1, .inl v1), (2, .inl 0)] [1, 2, 0] rfl ?_
        refine PR_tick_L37_l he4 ?_
        refine pw_aload_n 0 (px_at td_PR_tick 29 rfl) rfl rfl ?_
        refine pw_getf (v := .inr (some (2, 1, 0))) (px_at td_PR_tick 30 rfl) lf_PR_49 rfl rfl rfl ?_
        refine pw_getf (v := .inl (e4 (2, 1, 0) 5)) (px_at td_PR_tick 31 rfl) lf_PR_92 rfl rfl rfl ?_
        obtain rfl := Option.some.inj h
        exact pw_iret (px_at td_PR_tick 32 rfl) rfl (Nat.le_refl 0) (Nat.le_refl 0) hR
      · refine pw_icmp_le 31 (px_at td_PR_tick 14 rfl) (by decide) (fun hn => absurd hn hc5) (fun _ => ?_)
        refine pw_bipush (v := (-2)) (px_at td_PR_tick 15 rfl) (by decide) ?_
        obtain rfl := Option.some.inj h
        exact pw_iret (px_at td_PR_tick 16 rfl) rfl (Nat.le_refl 0) (Nat.le_refl 0) hR
    · refine pw_icmp_le 13 (px_at td_PR_tick 5 rfl) (by decide) (fun hn => absurd hn hc6) (fun _ => ?_)
      refine pw_L [] [] rfl ?_
      exact PR_tick_n11_l h hR
theorem k_PR_tick {l : Launch} {ids : List pxI} {σ : pxS} {v1 : Int32} {res : Int32 × pxS} (h : F_PR_tick σ v1 = some res) : pm l y_PR_tick c_PR_tick 3 (some .int) (px_R 7) [.inr (some (0, 0, 0)), .inl v1] ids cG σ (px_r (some (.inl res.1)) ids cG res.2) :=
  pm_ofF (by decide +kernel) (Nat.le_of_ble_eq_true rfl) (e_PR_tick h ⟨rfl, rfl, rfl, rfl⟩)
/-! PR_isRail -/
def PR_isRail_n19 (σ : pxS)  : Option (Int32) :=
  some (0)
set_option maxRecDepth 100000 in
theorem PR_isRail_n19_l {l : Launch} {ids : List pxI} {Rt : Option pxV → List pxI → pxG → pxS → Prop} {σ : pxS}  {res : Int32} (h : PR_isRail_n19 σ  = some res) (hR : Rt (some (.inl res)) ids cG σ) : pw l (px_R 1) y_PR_isRail c_PR_isRail 2 (some .boolean) 19 [] [] ids cG σ 0 0 Rt := by
  unfold PR_isRail_n19 at h
  refine pw_iconst (v := 0) (px_at td_PR_isRail 9 rfl) (by decide) ?_
  obtain rfl := Option.some.inj h
  exact pw_zret (px_at td_PR_isRail 10 rfl) rfl (by decide) (Nat.le_refl 0) (Nat.le_refl 0) hR
def F_PR_isRail (σ : pxS) (v1 : Int32) : Option (Int32) :=
  (if v1 < 0 then PR_isRail_n19 σ  else (if (σ (1, (σ (0, 0, 0) 6).toNatClampNeg, 0) 0) ≤ v1 then PR_isRail_n19 σ  else some (1)))
set_option maxRecDepth 100000 in
theorem e_PR_isRail {l : Launch} {ids : List pxI} {Rt : Option pxV → List pxI → pxG → pxS → Prop} {σ : pxS} {v1 : Int32} {res : Int32} (h : F_PR_isRail σ v1 = some res) (hR : Rt (some (.inl res)) ids cG σ) : pw l (px_R 1) y_PR_isRail c_PR_isRail 2 (some .boolean) 0 [(0, .inr (some (0, 0, 0))), (1, .inl v1)] [] ids cG σ 0 0 Rt := by
  unfold F_PR_isRail at h
  refine pw_iload_n 1 (px_at td_PR_isRail 0 rfl) rfl rfl ?_
  rcases px_ite h with ⟨hc2, h⟩ | ⟨hc2, h⟩
  · refine pw_if_lt 19 (px_at td_PR_isRail 1 rfl) (by decide) (fun _ => ?_) (fun hn => absurd hc2 hn)
    refine pw_L [] [] rfl ?_
    exact PR_isRail_n19_l h hR
  · refine pw_if_lt 19 (px_at td_PR_isRail 1 rfl) (by decide) (fun hn => absurd hn hc2) (fun _ => ?_)
    refine pw_iload_n 1 (px_at td_PR_isRail 2 rfl) rfl rfl ?_
    refine pw_aload_n 0 (px_at td_PR_isRail 3 rfl) rfl rfl ?_
    refine pw_getf (v := .inr (some (1, (σ (0, 0, 0) 6).toNatClampNeg, 0))) (px_at td_PR_isRail 4 rfl) lf_PR_31 rfl rfl rfl ?_
    refine pw_getf (v := .inl (σ (1, (σ (0, 0, 0) 6).toNatClampNeg, 0) 0)) (px_at td_PR_isRail 5 rfl) lf_PR_254 rfl rfl rfl ?_
    rcases px_ite h with ⟨hc1, h⟩ | ⟨hc1, h⟩
    · refine pw_icmp_ge 19 (px_at td_PR_isRail 6 rfl) (by decide) (fun _ => ?_) (fun hn => absurd hc1 hn)
      refine pw_L [] [] rfl ?_
      exact PR_isRail_n19_l h hR
    · refine pw_icmp_ge 19 (px_at td_PR_isRail 6 rfl) (by decide) (fun hn => absurd hn hc1) (fun _ => ?_)
      refine pw_iconst (v := 1) (px_at td_PR_isRail 7 rfl) (by decide) ?_
      refine pw_goto 20 (px_at td_PR_isRail 8 rfl) (by decide) ?_
      obtain rfl := Option.some.inj h
      exact pw_zret (px_at td_PR_isRail 10 rfl) rfl (by decide) (Nat.le_refl 0) (Nat.le_refl 0) hR
theorem k_PR_isRail {l : Launch} {ids : List pxI} {σ : pxS} {v1 : Int32} {res : Int32} (h : F_PR_isRail σ v1 = some res) : pm l y_PR_isRail c_PR_isRail 2 (some .boolean) (px_R 1) [.inr (some (0, 0, 0)), .inl v1] ids cG σ (px_r (some (.inl res)) ids cG σ) :=
  pm_ofF (by decide +kernel) (Nat.le_of_ble_eq_true rfl) (e_PR_isRail h ⟨rfl, rfl, rfl, rfl⟩)
/-! PR_ask -/
def F_PR_ask (σ : pxS) (v1 : Int32) (v2 : Int32) : Option (Int32 × pxS) :=
  px_b1 (F_PR_isRail σ v1) fun r1 =>
  (if r1 = 0 then some ((-1), σ) else px_b1 (F_PR_remember σ ) fun σ2 =>
  px_b1 (F_Bo_askRail σ2 1 v1 v2) fun σ3 =>
  px_gd v1 12 (some ((σ3 (3, 1, v1.toNatClampNeg) 2), σ3)))
set_option maxRecDepth 100000 in
theorem e_PR_ask {l : Launch} {ids : List pxI} {Rt : Option pxV → List pxI → pxG → pxS → Prop} {σ : pxS} {v1 : Int32} {v2 : Int32} {res : Int32 × pxS} (h : F_PR_ask σ v1 v2 = some res) (hR : Rt (some (.inl res.1)) ids cG res.2) : pw l (px_R 4) y_PR_ask c_PR_ask 3 (some .int) 0 [(0, .inr (some (0, 0, 0))), (1, .inl v1), (2, .inl v2)] [] ids cG σ 0 0 Rt := by
  unfold F_PR_ask at h
  refine pw_aload_n 0 (px_at td_PR_ask 0 rfl) rfl rfl ?_
  refine pw_iload_n 1 (px_at td_PR_ask 1 rfl) rfl rfl ?_
  obtain ⟨r1, hk1, h⟩ := px_b1_e h
  refine pw_cV1 (0, 0, 0) [.inl v1] [] (px_at td_PR_ask 2 rfl) lV_PR_101 rfl rfl rfl (Nat.le_of_ble_eq_true rfl) (by decide) (k_PR_isRail hk1) ?_
  rcases px_ite h with ⟨hc5, h⟩ | ⟨hc5, h⟩
  · refine pw_if_ne 10 (px_at td_PR_ask 3 rfl) (by decide) (fun hn => absurd hc5 hn) (fun _ => ?_)
    refine pw_iconst (v := (-1)) (px_at td_PR_ask 4 rfl) (by decide) ?_
    obtain rfl := Option.some.inj h
    exact pw_iret (px_at td_PR_ask 5 rfl) rfl (Nat.le_refl 0) (Nat.le_refl 0) hR
  · refine pw_if_ne 10 (px_at td_PR_ask 3 rfl) (by decide) (fun _ => ?_) (fun hn => absurd hn hc5)
    refine pw_aload_n 0 (px_at td_PR_ask 6 rfl) rfl rfl ?_
    obtain ⟨σ2, hk2, h⟩ := px_b1_e h
    refine pw_cV0 (0, 0, 0) [] [] (px_at td_PR_ask 7 rfl) lV_PR_95 rfl rfl rfl (Nat.le_of_ble_eq_true rfl) (by decide) (k_PR_remember hk2) ?_
    refine pw_aload_n 0 (px_at td_PR_ask 8 rfl) rfl rfl ?_
    refine pw_getf (v := .inr (some (2, 1, 0))) (px_at td_PR_ask 9 rfl) lf_PR_49 rfl rfl rfl ?_
    refine pw_iload_n 1 (px_at td_PR_ask 10 rfl) rfl rfl ?_
    refine pw_iload_n 2 (px_at td_PR_ask 11 rfl) rfl rfl ?_
    obtain ⟨σ3, hk3, h⟩ := px_b1_e h
    refine pw_cV0 (2, 1, 0) [.inl v1, .inl v2] [] (px_at td_PR_ask 12 rfl) lV_PR_105 rfl rfl rfl (Nat.le_of_ble_eq_true rfl) (by decide) (k_Bo_askRail hk3) ?_
    refine pw_aload_n 0 (px_at td_PR_ask 13 rfl) rfl rfl ?_
    refine pw_getf (v := .inr (some (2, 1, 0))) (px_at td_PR_ask 14 rfl) lf_PR_49 rfl rfl rfl ?_
    refine pw_getf (v := .inr (some (9, 1, 0))) (px_at td_PR_ask 15 rfl) lf_PR_109 rfl rfl rfl ?_
    refine pw_iload_n 1 (px_at td_PR_ask 16 rfl) rfl rfl ?_
    obtain ⟨hi4, h⟩ := px_gd_e h
    refine pw_aald (r := (3, 1, v1.toNatClampNeg)) (px_at td_PR_ask 17 rfl) rfl (fun _ => rfl) hi4 rfl ?_
    refine pw_getf (v := .inl (σ3 (3, 1, v1.toNatClampNeg) 2)) (px_at td_PR_ask 18 rfl) lf_PR_113 rfl rfl rfl ?_
    obtain rfl := Option.some.inj h
    exact pw_iret (px_at td_PR_ask 19 rfl) rfl (Nat.le_refl 0) (Nat.le_refl 0) hR
theorem k_PR_ask {l : Launch} {ids : List pxI} {σ : pxS} {v1 : Int32} {v2 : Int32} {res : Int32 × pxS} (h : F_PR_ask σ v1 v2 = some res) : pm l y_PR_ask c_PR_ask 3 (some .int) (px_R 4) [.inr (some (0, 0, 0)), .inl v1, .inl v2] ids cG σ (px_r (some (.inl res.1)) ids cG res.2) :=
  pm_ofF (by decide +kernel) (Nat.le_of_ble_eq_true rfl) (e_PR_ask h ⟨rfl, rfl, rfl, rfl⟩)
/-! PR_begin -/
def F_PR_begin (σ : pxS)  : Option (Int32 × pxS) :=
  (if (σ (1, (σ (0, 0, 0) 6).toNatClampNeg, 0) 2) = 0 then some ((-1), σ) else (if (σ (2, 1, 0) 7) = 1 then some ((-2), σ) else px_b1 (F_PR_remember σ ) fun σ1 =>
  px_b1 (F_Bo_runFromFirst σ1 1) fun σ2 =>
  some ((σ2 (1, (σ2 (0, 0, 0) 6).toNatClampNeg, 0) 2), σ2)))
set_option maxRecDepth 100000 in
theorem e_PR_begin {l : Launch} {ids : List pxI} {Rt : Option pxV → List pxI → pxG → pxS → Prop} {σ : pxS}  {res : Int32 × pxS} (h : F_PR_begin σ  = some res) (hR : Rt (some (.inl res.1)) ids cG res.2) : pw l (px_R 4) y_PR_begin c_PR_begin 1 (some .int) 0 [(0, .inr (some (0, 0, 0)))] [] ids cG σ 0 0 Rt := by
  unfold F_PR_begin at h
  refine pw_aload_n 0 (px_at td_PR_begin 0 rfl) rfl rfl ?_
  refine pw_getf (v := .inr (some (1, (σ (0, 0, 0) 6).toNatClampNeg, 0))) (px_at td_PR_begin 1 rfl) lf_PR_31 rfl rfl rfl ?_
  refine pw_getf (v := .inl (σ (1, (σ (0, 0, 0) 6).toNatClampNeg, 0) 2)) (px_at td_PR_begin 2 rfl) lf_PR_118 rfl rfl rfl ?_
  rcases px_ite h with ⟨hc4, h⟩ | ⟨hc4, h⟩
  · refine pw_if_ne 12 (px_at td_PR_begin 3 rfl) (by decide) (fun hn => absurd hc4 hn) (fun _ => ?_)
    refine pw_iconst (v := (-1)) (px_at td_PR_begin 4 rfl) (by decide) ?_
    obtain rfl := Option.some.inj h
    exact pw_iret (px_at td_PR_begin 5 rfl) rfl (Nat.le_refl 0) (Nat.le_refl 0) hR
  · refine pw_if_ne 12 (px_at td_PR_begin 3 rfl) (by decide) (fun _ => ?_) (fun hn => absurd hn hc4)
    refine pw_aload_n 0 (px_at td_PR_begin 6 rfl) rfl rfl ?_
    refine pw_getf (v := .inr (some (2, 1, 0))) (px_at td_PR_begin 7 rfl) lf_PR_49 rfl rfl rfl ?_
    refine pw_getf (v := .inl (σ (2, 1, 0) 7)) (px_at td_PR_begin 8 rfl) lf_PR_121 rfl rfl rfl ?_
    refine pw_iconst (v := 1) (px_at td_PR_begin 9 rfl) (by decide) ?_
    rcases px_ite h with ⟨hc3, h⟩ | ⟨hc3, h⟩
    · refine pw_icmp_ne 26 (px_at td_PR_begin 10 rfl) (by decide) (fun hn => absurd hc3 hn) (fun _ => ?_)
      refine pw_bipush (v := (-2)) (px_at td_PR_begin 11 rfl) (by decide) ?_
      obtain rfl := Option.some.inj h
      exact pw_iret (px_at td_PR_begin 12 rfl) rfl (Nat.le_refl 0) (Nat.le_refl 0) hR
    · refine pw_icmp_ne 26 (px_at td_PR_begin 10 rfl) (by decide) (fun _ => ?_) (fun hn => absurd hn hc3)
      refine pw_aload_n 0 (px_at td_PR_begin 13 rfl) rfl rfl ?_
      obtain ⟨σ1, hk1, h⟩ := px_b1_e h
      refine pw_cV0 (0, 0, 0) [] [] (px_at td_PR_begin 14 rfl) lV_PR_95 rfl rfl rfl (Nat.le_of_ble_eq_true rfl) (by decide) (k_PR_remember hk1) ?_
      refine pw_aload_n 0 (px_at td_PR_begin 15 rfl) rfl rfl ?_
      refine pw_getf (v := .inr (some (2, 1, 0))) (px_at td_PR_begin 16 rfl) lf_PR_49 rfl rfl rfl ?_
      obtain ⟨σ2, hk2, h⟩ := px_b1_e h
      refine pw_cV0 (2, 1, 0) [] [] (px_at td_PR_begin 17 rfl) lV_PR_124 rfl rfl rfl (Nat.le_of_ble_eq_true rfl) (by decide) (k_Bo_runFromFirst hk2) ?_
      refine pw_aload_n 0 (px_at td_PR_begin 18 rfl) rfl rfl ?_
      refine pw_getf (v := .inr (some (1, (σ2 (0, 0, 0) 6).toNatClampNeg, 0))) (px_at td_PR_begin 19 rfl) lf_PR_31 rfl rfl rfl ?_
      refine pw_getf (v := .inl (σ2 (1, (σ2 (0, 0, 0) 6).toNatClampNeg, 0) 2)) (px_at td_PR_begin 20 rfl) lf_PR_118 rfl rfl rfl ?_
      obtain rfl := Option.some.inj h
      exact pw_iret (px_at td_PR_begin 21 rfl) rfl (Nat.le_refl 0) (Nat.le_refl 0) hR
theorem k_PR_begin {l : Launch} {ids : List pxI} {σ : pxS}  {res : Int32 × pxS} (h : F_PR_begin σ  = some res) : pm l y_PR_begin c_PR_begin 1 (some .int) (px_R 4) [.inr (some (0, 0, 0))] ids cG σ (px_r (some (.inl res.1)) ids cG res.2) :=
  pm_ofF (by decide +kernel) (Nat.le_of_ble_eq_true rfl) (e_PR_begin h ⟨rfl, rfl, rfl, rfl⟩)
/-! PR_load -/
def PR_load_n19 (σ : pxS)  : Option (Int32 × pxS) :=
  some ((-1), σ)
set_option maxRecDepth 100000 in
theorem PR_load_n19_l {l : Launch} {ids : List pxI} {Rt : Option pxV → List pxI → pxG → pxS → Prop} {σ : pxS}  {res : Int32 × pxS} (h : PR_load_n19 σ  = some res) (hR : Rt (some (.inl res.1)) ids cG res.2) : pw l (px_R 4) y_PR_load c_PR_load 4 (some .int) 19 [] [] ids cG σ 0 0 Rt := by
  unfold PR_load_n19 at h
  refine pw_iconst (v := (-1)) (px_at td_PR_load 9 rfl) (by decide) ?_
  obtain rfl := Option.some.inj h
  exact pw_iret (px_at td_PR_load 10 rfl) rfl (Nat.le_refl 0) (Nat.le_refl 0) hR
def F_PR_load (σ : pxS) (v1 : Int32) (v2 : Int32) : Option (Int32 × pxS) :=
  px_b1 (F_PR_isRail σ v1) fun r1 =>
  (if r1 = 0 then PR_load_n19 σ  else (if v2 < 0 then PR_load_n19 σ  else (if v2 ≤ 9999 then px_b1 (F_PR_remember σ ) fun σ2 =>
  px_gd v1 12 (px_gd v1 12 (px_l (px_up σ2 (3, 1, v1.toNatClampNeg) 0 v2) fun σ5 =>
  some ((σ2 (3, 1, v1.toNatClampNeg) 0), σ5))) else PR_load_n19 σ )))
set_option maxRecDepth 100000 in
theorem e_PR_load {l : Launch} {ids : List pxI} {Rt : Option pxV → List pxI → pxG → pxS → Prop} {σ : pxS} {v1 : Int32} {v2 : Int32} {res : Int32 × pxS} (h : F_PR_load σ v1 v2 = some res) (hR : Rt (some (.inl res.1)) ids cG res.2) : pw l (px_R 4) y_PR_load c_PR_load 4 (some .int) 0 [(0, .inr (some (0, 0, 0))), (1, .inl v1), (2, .inl v2)] [] ids cG σ 0 0 Rt := by
  unfold F_PR_load at h
  refine pw_aload_n 0 (px_at td_PR_load 0 rfl) rfl rfl ?_
  refine pw_iload_n 1 (px_at td_PR_load 1 rfl) rfl rfl ?_
  obtain ⟨r1, hk1, h⟩ := px_b1_e h
  refine pw_cV1 (0, 0, 0) [.inl v1] [] (px_at td_PR_load 2 rfl) lV_PR_101 rfl rfl rfl (Nat.le_of_ble_eq_true rfl) (by decide) (k_PR_isRail hk1) ?_
  rcases px_ite h with ⟨hc8, h⟩ | ⟨hc8, h⟩
  · refine pw_if_eq 19 (px_at td_PR_load 3 rfl) (by decide) (fun _ => ?_) (fun hn => absurd hc8 hn)
    refine pw_L [] [] rfl ?_
    exact PR_load_n19_l h hR
  · refine pw_if_eq 19 (px_at td_PR_load 3 rfl) (by decide) (fun hn => absurd hn hc8) (fun _ => ?_)
    refine pw_iload_n 2 (px_at td_PR_load 4 rfl) rfl rfl ?_
    rcases px_ite h with ⟨hc7, h⟩ | ⟨hc7, h⟩
    · refine pw_if_lt 19 (px_at td_PR_load 5 rfl) (by decide) (fun _ => ?_) (fun hn => absurd hc7 hn)
      refine pw_L [] [] rfl ?_
      exact PR_load_n19_l h hR
    · refine pw_if_lt 19 (px_at td_PR_load 5 rfl) (by decide) (fun hn => absurd hn hc7) (fun _ => ?_)
      refine pw_iload_n 2 (px_at td_PR_load 6 rfl) rfl rfl ?_
      refine pw_sipush (v := 9999) (px_at td_PR_load 7 rfl) (by decide) ?_
      rcases px_ite h with ⟨hc6, h⟩ | ⟨hc6, h⟩
      · refine pw_icmp_le 21 (px_at td_PR_load 8 rfl) (by decide) (fun _ => ?_) (fun hn => absurd hc6 hn)
        refine pw_aload_n 0 (px_at td_PR_load 11 rfl) rfl rfl ?_
        obtain ⟨σ2, hk2, h⟩ := px_b1_e h
        refine pw_cV0 (0, 0, 0) [] [] (px_at td_PR_load 12 rfl) lV_PR_95 rfl rfl rfl (Nat.le_of_ble_eq_true rfl) (by decide) (k_PR_remember hk2) ?_
        refine pw_aload_n 0 (px_at td_PR_load 13 rfl) rfl rfl ?_
        refine pw_getf (v := .inr (some (2, 1, 0))) (px_at td_PR_load 14 rfl) lf_PR_49 rfl rfl rfl ?_
        refine pw_getf (v := .inr (some (9, 1, 0))) (px_at td_PR_load 15 rfl) lf_PR_109 rfl rfl rfl ?_
        refine pw_iload_n 1 (px_at td_PR_load 16 rfl) rfl rfl ?_
        obtain ⟨hi3, h⟩ := px_gd_e h
        refine pw_aald (r := (3, 1, v1.toNatClampNeg)) (px_at td_PR_load 17 rfl) rfl (fun _ => rfl) hi3 rfl ?_
        refine pw_getf (v := .inl (σ2 (3, 1, v1.toNatClampNeg) 0)) (px_at td_PR_load 18 rfl) lf_PR_127 rfl rfl rfl ?_
        refine pw_istore_n (L' := [(3, .inl (σ2 (3, 1, v1.toNatClampNeg) 0)), (0, .inr (some (0, 0, 0))), (1, .inl v1), (2, .inl v2)]) (px_at td_PR_load 19 rfl) rfl (by decide) rfl ?_
        refine pw_aload_n 1 (px_at td_PR_load 20 rfl) rfl rfl ?_
        refine pw_getf (v := .inr (some (2, 1, 0))) (px_at td_PR_load 21 rfl) lf_PR_49 rfl rfl rfl ?_
        refine pw_getf (v := .inr (some (9, 1, 0))) (px_at td_PR_load 22 rfl) lf_PR_109 rfl rfl rfl ?_
        refine pw_iload_n 2 (px_at td_PR_load 23 rfl) rfl rfl ?_
        obtain ⟨hi4, h⟩ := px_gd_e h
        refine pw_aald (r := (3, 1, v1.toNatClampNeg)) (px_at td_PR_load 24 rfl) rfl (fun _ => rfl) hi4 rfl ?_
        refine pw_iload_n 3 (px_at td_PR_load 25 rfl) rfl rfl ?_
        obtain ⟨σ5, hσ5, h⟩ := px_l_e h
        refine pw_puti (px_at td_PR_load 26 rfl) lw_PR_127 rfl rfl (pw_s hσ5 ?_)
        refine pw_iload_n 0 (px_at td_PR_load 27 rfl) rfl rfl ?_
        obtain rfl := Option.some.inj h
        exact pw_iret (px_at td_PR_load 28 rfl) rfl (Nat.le_refl 0) (Nat.le_refl 0) hR
      · refine pw_icmp_le 21 (px_at td_PR_load 8 rfl) (by decide) (fun hn => absurd hn hc6) (fun _ => ?_)
        refine pw_L [] [] rfl ?_
        exact PR_load_n19_l h hR
theorem k_PR_load {l : Launch} {ids : List pxI} {σ : pxS} {v1 : Int32} {v2 : Int32} {res : Int32 × pxS} (h : F_PR_load σ v1 v2 = some res) : pm l y_PR_load c_PR_load 4 (some .int) (px_R 4) [.inr (some (0, 0, 0)), .inl v1, .inl v2] ids cG σ (px_r (some (.inl res.1)) ids cG res.2) :=
  pm_ofF (by decide +kernel) (Nat.le_of_ble_eq_true rfl) (e_PR_load h ⟨rfl, rfl, rfl, rfl⟩)
/-! PR_limit -/
def PR_limit_n19 (σ : pxS)  : Option (Int32 × pxS) :=
  some ((-1), σ)
set_option maxRecDepth 100000 in
theorem PR_limit_n19_l {l : Launch} {ids : List pxI} {Rt : Option pxV → List pxI → pxG → pxS → Prop} {σ : pxS}  {res : Int32 × pxS} (h : PR_limit_n19 σ  = some res) (hR : Rt (some (.inl res.1)) ids cG res.2) : pw l (px_R 4) y_PR_limit c_PR_limit 4 (some .int) 19 [] [] ids cG σ 0 0 Rt := by
  unfold PR_limit_n19 at h
  refine pw_iconst (v := (-1)) (px_at td_PR_limit 10 rfl) (by decide) ?_
  obtain rfl := Option.some.inj h
  exact pw_iret (px_at td_PR_limit 11 rfl) rfl (Nat.le_refl 0) (Nat.le_refl 0) hR
def F_PR_limit (σ : pxS) (v1 : Int32) (v2 : Int32) : Option (Int32 × pxS) :=
  px_b1 (F_PR_isRail σ v1) fun r1 =>
  (if r1 = 0 then PR_limit_n19 σ  else (if v2 < 1 then PR_limit_n19 σ  else (if v2 ≤ 99999 then px_b1 (F_PR_remember σ ) fun σ2 =>
  px_gd v1 12 (px_gd v1 12 (px_l (px_up σ2 (3, 1, v1.toNatClampNeg) 1 v2) fun σ5 =>
  some ((σ2 (3, 1, v1.toNatClampNeg) 1), σ5))) else PR_limit_n19 σ )))
set_option maxRecDepth 100000 in
theorem e_PR_limit {l : Launch} {ids : List pxI} {Rt : Option pxV → List pxI → pxG → pxS → Prop} {σ : pxS} {v1 : Int32} {v2 : Int32} {res : Int32 × pxS} (h : F_PR_limit σ v1 v2 = some res) (hR : Rt (some (.inl res.1)) ids cG res.2) : pw l (px_R 4) y_PR_limit c_PR_limit 4 (some .int) 0 [(0, .inr (some (0, 0, 0))), (1, .inl v1), (2, .inl v2)] [] ids cG σ 0 0 Rt := by
  unfold F_PR_limit at h
  refine pw_aload_n 0 (px_at td_PR_limit 0 rfl) rfl rfl ?_
  refine pw_iload_n 1 (px_at td_PR_limit 1 rfl) rfl rfl ?_
  obtain ⟨r1, hk1, h⟩ := px_b1_e h
  refine pw_cV1 (0, 0, 0) [.inl v1] [] (px_at td_PR_limit 2 rfl) lV_PR_101 rfl rfl rfl (Nat.le_of_ble_eq_true rfl) (by decide) (k_PR_isRail hk1) ?_
  rcases px_ite h with ⟨hc8, h⟩ | ⟨hc8, h⟩
  · refine pw_if_eq 19 (px_at td_PR_limit 3 rfl) (by decide) (fun _ => ?_) (fun hn => absurd hc8 hn)
    refine pw_L [] [] rfl ?_
    exact PR_limit_n19_l h hR
  · refine pw_if_eq 19 (px_at td_PR_limit 3 rfl) (by decide) (fun hn => absurd hn hc8) (fun _ => ?_)
    refine pw_iload_n 2 (px_at td_PR_limit 4 rfl) rfl rfl ?_
    refine pw_iconst (v := 1) (px_at td_PR_limit 5 rfl) (by decide) ?_
    rcases px_ite h with ⟨hc7, h⟩ | ⟨hc7, h⟩
    · refine pw_icmp_lt 19 (px_at td_PR_limit 6 rfl) (by decide) (fun _ => ?_) (fun hn => absurd hc7 hn)
      refine pw_L [] [] rfl ?_
      exact PR_limit_n19_l h hR
    · refine pw_icmp_lt 19 (px_at td_PR_limit 6 rfl) (by decide) (fun hn => absurd hn hc7) (fun _ => ?_)
      refine pw_iload_n 2 (px_at td_PR_limit 7 rfl) rfl rfl ?_
      refine pw_ldc (v := 99999) (px_at td_PR_limit 8 rfl) lc_PR_130 ?_
      rcases px_ite h with ⟨hc6, h⟩ | ⟨hc6, h⟩
      · refine pw_icmp_le 21 (px_at td_PR_limit 9 rfl) (by decide) (fun _ => ?_) (fun hn => absurd hc6 hn)
        refine pw_aload_n 0 (px_at td_PR_limit 12 rfl) rfl rfl ?_
        obtain ⟨σ2, hk2, h⟩ := px_b1_e h
        refine pw_cV0 (0, 0, 0) [] [] (px_at td_PR_limit 13 rfl) lV_PR_95 rfl rfl rfl (Nat.le_of_ble_eq_true rfl) (by decide) (k_PR_remember hk2) ?_
        refine pw_aload_n 0 (px_at td_PR_limit 14 rfl) rfl rfl ?_
        refine pw_getf (v := .inr (some (2, 1, 0))) (px_at td_PR_limit 15 rfl) lf_PR_49 rfl rfl rfl ?_
        refine pw_getf (v := .inr (some (9, 1, 0))) (px_at td_PR_limit 16 rfl) lf_PR_109 rfl rfl rfl ?_
        refine pw_iload_n 1 (px_at td_PR_limit 17 rfl) rfl rfl ?_
        obtain ⟨hi3, h⟩ := px_gd_e h
        refine pw_aald (r := (3, 1, v1.toNatClampNeg)) (px_at td_PR_limit 18 rfl) rfl (fun _ => rfl) hi3 rfl ?_
        refine pw_getf (v := .inl (σ2 (3, 1, v1.toNatClampNeg) 1)) (px_at td_PR_limit 19 rfl) lf_PR_131 rfl rfl rfl ?_
        refine pw_istore_n (L' := [(3, .inl (σ2 (3, 1, v1.toNatClampNeg) 1)), (0, .inr (some (0, 0, 0))), (1, .inl v1), (2, .inl v2)]) (px_at td_PR_limit 20 rfl) rfl (by decide) rfl ?_
        refine pw_aload_n 1 (px_at td_PR_limit 21 rfl) rfl rfl ?_
        refine pw_getf (v := .inr (some (2, 1, 0))) (px_at td_PR_limit 22 rfl) lf_PR_49 rfl rfl rfl ?_
        refine pw_getf (v := .inr (some (9, 1, 0))) (px_at td_PR_limit 23 rfl) lf_PR_109 rfl rfl rfl ?_
        refine pw_iload_n 2 (px_at td_PR_limit 24 rfl) rfl rfl ?_
        obtain ⟨hi4, h⟩ := px_gd_e h
        refine pw_aald (r := (3, 1, v1.toNatClampNeg)) (px_at td_PR_limit 25 rfl) rfl (fun _ => rfl) hi4 rfl ?_
        refine pw_iload_n 3 (px_at td_PR_limit 26 rfl) rfl rfl ?_
        obtain ⟨σ5, hσ5, h⟩ := px_l_e h
        refine pw_puti (px_at td_PR_limit 27 rfl) lw_PR_131 rfl rfl (pw_s hσ5 ?_)
        refine pw_iload_n 0 (px_at td_PR_limit 28 rfl) rfl rfl ?_
        obtain rfl := Option.some.inj h
        exact pw_iret (px_at td_PR_limit 29 rfl) rfl (Nat.le_refl 0) (Nat.le_refl 0) hR
      · refine pw_icmp_le 21 (px_at td_PR_limit 9 rfl) (by decide) (fun hn => absurd hn hc6) (fun _ => ?_)
        refine pw_L [] [] rfl ?_
        exact PR_limit_n19_l h hR
theorem k_PR_limit {l : Launch} {ids : List pxI} {σ : pxS} {v1 : Int32} {v2 : Int32} {res : Int32 × pxS} (h : F_PR_limit σ v1 v2 = some res) : pm l y_PR_limit c_PR_limit 4 (some .int) (px_R 4) [.inr (some (0, 0, 0)), .inl v1, .inl v2] ids cG σ (px_r (some (.inl res.1)) ids cG res.2) :=
  pm_ofF (by decide +kernel) (Nat.le_of_ble_eq_true rfl) (e_PR_limit h ⟨rfl, rfl, rfl, rfl⟩)
/-! PR_hangs -/
def F_PR_hangs (σ : pxS) (v1 : Int32) (v2 : Int32) : Option (Int32) :=
  px_b1 (F_PR_isRail σ v1) fun r1 =>
  (if r1 = 0 then some ((-1)) else (if v2 = 0 then px_gd v1 12 (some ((σ (8, (σ (0, 0, 0) 6).toNatClampNeg, 7) v1.toNatClampNeg))) else (if v2 = 1 then px_gd v1 12 (some ((σ (8, (σ (0, 0, 0) 6).toNatClampNeg, 9) v1.toNatClampNeg))) else (if v2 = 2 then px_gd v1 12 (some ((σ (8, (σ (0, 0, 0) 6).toNatClampNeg, 10) v1.toNatClampNeg))) else some ((-1))))))
set_option maxRecDepth 100000 in
theorem e_PR_hangs {l : Launch} {ids : List pxI} {Rt : Option pxV → List pxI → pxG → pxS → Prop} {σ : pxS} {v1 : Int32} {v2 : Int32} {res : Int32} (h : F_PR_hangs σ v1 v2 = some res) (hR : Rt (some (.inl res)) ids cG σ) : pw l (px_R 2) y_PR_hangs c_PR_hangs 3 (some .int) 0 [(0, .inr (some (0, 0, 0))), (1, .inl v1), (2, .inl v2)] [] ids cG σ 0 0 Rt := by
  unfold F_PR_hangs at h
  refine pw_aload_n 0 (px_at td_PR_hangs 0 rfl) rfl rfl ?_
  refine pw_iload_n 1 (px_at td_PR_hangs 1 rfl) rfl rfl ?_
  obtain ⟨r1, hk1, h⟩ := px_b1_e h
  refine pw_cV1 (0, 0, 0) [.inl v1] [] (px_at td_PR_hangs 2 rfl) lV_PR_101 rfl rfl rfl (Nat.le_of_ble_eq_true rfl) (by decide) (k_PR_isRail hk1) ?_
  rcases px_ite h with ⟨hc6, h⟩ | ⟨hc6, h⟩
  · refine pw_if_ne 10 (px_at td_PR_hangs 3 rfl) (by decide) (fun hn => absurd hc6 hn) (fun _ => ?_)
    refine pw_iconst (v := (-1)) (px_at td_PR_hangs 4 rfl) (by decide) ?_
    obtain rfl := Option.some.inj h
    exact pw_iret (px_at td_PR_hangs 5 rfl) rfl (Nat.le_refl 0) (Nat.le_refl 0) hR
  · refine pw_if_ne 10 (px_at td_PR_hangs 3 rfl) (by decide) (fun _ => ?_) (fun hn => absurd hn hc6)
    refine pw_iload_n 2 (px_at td_PR_hangs 6 rfl) rfl rfl ?_
    rcases px_ite h with ⟨hs2_0, h⟩ | ⟨hs2_0, h⟩
    · refine pw_tin (off := 25) 0 36 (px_at td_PR_hangs 7 rfl) hs2_0 (by decide) (by decide) (by decide) (by decide) ?_
      refine pw_aload_n 0 (px_at td_PR_hangs 8 rfl) rfl rfl ?_
      refine pw_getf (v := .inr (some (1, (σ (0, 0, 0) 6).toNatClampNeg, 0))) (px_at td_PR_hangs 9 rfl) lf_PR_31 rfl rfl rfl ?_
      refine pw_getf (v := .inr (some (8, (σ (0, 0, 0) 6).toNatClampNeg, 7))) (px_at td_PR_hangs 10 rfl) lf_PR_177 rfl rfl rfl ?_
      refine pw_iload_n 1 (px_at td_PR_hangs 11 rfl) rfl rfl ?_
      obtain ⟨hi3, h⟩ := px_gd_e h
      refine pw_ial (px_at td_PR_hangs 12 rfl) rfl hi3 rfl ?_
      obtain rfl := Option.some.inj h
      exact pw_iret (px_at td_PR_hangs 13 rfl) rfl (Nat.le_refl 0) (Nat.le_refl 0) hR
    · have hd2_0 := trivial
      rcases px_ite h with ⟨hs2_1, h⟩ | ⟨hs2_1, h⟩
      · refine pw_tin (off := 35) 1 46 (px_at td_PR_hangs 7 rfl) hs2_1 (by decide) (by decide) (by decide) (by decide) ?_
        refine pw_aload_n 0 (px_at td_PR_hangs 14 rfl) rfl rfl ?_
        refine pw_getf (v := .inr (some (1, (σ (0, 0, 0) 6).toNatClampNeg, 0))) (px_at td_PR_hangs 15 rfl) lf_PR_31 rfl rfl rfl ?_
        refine pw_getf (v := .inr (some (8, (σ (0, 0, 0) 6).toNatClampNeg, 9))) (px_at td_PR_hangs 16 rfl) lf_PR_180 rfl rfl rfl ?_
        refine pw_iload_n 1 (px_at td_PR_hangs 17 rfl) rfl rfl ?_
        obtain ⟨hi4, h⟩ := px_gd_e h
        refine pw_ial (px_at td_PR_hangs 18 rfl) rfl hi4 rfl ?_
        obtain rfl := Option.some.inj h
        exact pw_iret (px_at td_PR_hangs 19 rfl) rfl (Nat.le_refl 0) (Nat.le_refl 0) hR
      · have hd2_1 := trivial
        rcases px_ite h with ⟨hs2_2, h⟩ | ⟨hs2_2, h⟩
        · refine pw_tin (off := 45) 2 56 (px_at td_PR_hangs 7 rfl) hs2_2 (by decide) (by decide) (by decide) (by decide) ?_
          refine pw_aload_n 0 (px_at td_PR_hangs 20 rfl) rfl rfl ?_
          refine pw_getf (v := .inr (some (1, (σ (0, 0, 0) 6).toNatClampNeg, 0))) (px_at td_PR_hangs 21 rfl) lf_PR_31 rfl rfl rfl ?_
          refine pw_getf (v := .inr (some (8, (σ (0, 0, 0) 6).toNatClampNeg, 10))) (px_at td_PR_hangs 22 rfl) lf_PR_183 rfl rfl rfl ?_
          refine pw_iload_n 1 (px_at td_PR_hangs 23 rfl) rfl rfl ?_
          obtain ⟨hi5, h⟩ := px_gd_e h
          refine pw_ial (px_at td_PR_hangs 24 rfl) rfl hi5 rfl ?_
          obtain rfl := Option.some.inj h
          exact pw_iret (px_at td_PR_hangs 25 rfl) rfl (Nat.le_refl 0) (Nat.le_refl 0) hR
        · have hd2_2 := trivial
          refine pw_tout 66 (px_at td_PR_hangs 7 rfl) (px_out [0, 1, 2] (by decide) (by simp only [List.forall_mem_cons]; exact ⟨hs2_0, hs2_1, hs2_2, fun _ hm => absurd hm List.not_mem_nil⟩)) (by decide) ?_
          refine pw_iconst (v := (-1)) (px_at td_PR_hangs 26 rfl) (by decide) ?_
          obtain rfl := Option.some.inj h
          exact pw_iret (px_at td_PR_hangs 27 rfl) rfl (Nat.le_refl 0) (Nat.le_refl 0) hR
theorem k_PR_hangs {l : Launch} {ids : List pxI} {σ : pxS} {v1 : Int32} {v2 : Int32} {res : Int32} (h : F_PR_hangs σ v1 v2 = some res) : pm l y_PR_hangs c_PR_hangs 3 (some .int) (px_R 2) [.inr (some (0, 0, 0)), .inl v1, .inl v2] ids cG σ (px_r (some (.inl res)) ids cG σ) :=
  pm_ofF (by decide +kernel) (Nat.le_of_ble_eq_true rfl) (e_PR_hangs h ⟨rfl, rfl, rfl, rfl⟩)
/-! PR_waiting -/
def F_PR_waiting (σ : pxS) (v1 : Int32) (v2 : Int32) : Option (Int32) :=
  (if 0 ≤ v1 then (if v2 = 0 then px_b1 (F_Qu_at σ 1 0 v1) fun r1 =>
  some (r1) else px_b1 (F_Qu_at σ 1 1 v1) fun r2 =>
  some (r2)) else some ((-1)))
set_option maxRecDepth 100000 in
theorem e_PR_waiting {l : Launch} {ids : List pxI} {Rt : Option pxV → List pxI → pxG → pxS → Prop} {σ : pxS} {v1 : Int32} {v2 : Int32} {res : Int32} (h : F_PR_waiting σ v1 v2 = some res) (hR : Rt (some (.inl res)) ids cG σ) : pw l (px_R 2) y_PR_waiting c_PR_waiting 3 (some .int) 0 [(0, .inr (some (0, 0, 0))), (1, .inl v1), (2, .inl v2)] [] ids cG σ 0 0 Rt := by
  unfold F_PR_waiting at h
  refine pw_iload_n 1 (px_at td_PR_waiting 0 rfl) rfl rfl ?_
  rcases px_ite h with ⟨hc4, h⟩ | ⟨hc4, h⟩
  · refine pw_if_ge 6 (px_at td_PR_waiting 1 rfl) (by decide) (fun _ => ?_) (fun hn => absurd hc4 hn)
    refine pw_iload_n 2 (px_at td_PR_waiting 4 rfl) rfl rfl ?_
    rcases px_ite h with ⟨hc3, h⟩ | ⟨hc3, h⟩
    · refine pw_if_eq 24 (px_at td_PR_waiting 5 rfl) (by decide) (fun _ => ?_) (fun hn => absurd hc3 hn)
      refine pw_aload_n 0 (px_at td_PR_waiting 12 rfl) rfl rfl ?_
      refine pw_getf (v := .inr (some (2, 1, 0))) (px_at td_PR_waiting 13 rfl) lf_PR_49 rfl rfl rfl ?_
      refine pw_getf (v := .inr (some (4, 1, 0))) (px_at td_PR_waiting 14 rfl) lf_PR_195 rfl rfl rfl ?_
      refine pw_iload_n 1 (px_at td_PR_waiting 15 rfl) rfl rfl ?_
      obtain ⟨r1, hk1, h⟩ := px_b1_e h
      refine pw_cV1 (4, 1, 0) [.inl v1] [] (px_at td_PR_waiting 16 rfl) lV_PR_190 rfl rfl rfl (Nat.le_of_ble_eq_true rfl) (by decide) (k_Qu_at hk1) ?_
      obtain rfl := Option.some.inj h
      exact pw_iret (px_at td_PR_waiting 17 rfl) rfl (Nat.le_refl 0) (Nat.le_refl 0) hR
    · refine pw_if_eq 24 (px_at td_PR_waiting 5 rfl) (by decide) (fun hn => absurd hn hc3) (fun _ => ?_)
      refine pw_aload_n 0 (px_at td_PR_waiting 6 rfl) rfl rfl ?_
      refine pw_getf (v := .inr (some (2, 1, 0))) (px_at td_PR_waiting 7 rfl) lf_PR_49 rfl rfl rfl ?_
      refine pw_getf (v := .inr (some (4, 1, 1))) (px_at td_PR_waiting 8 rfl) lf_PR_186 rfl rfl rfl ?_
      refine pw_iload_n 1 (px_at td_PR_waiting 9 rfl) rfl rfl ?_
      obtain ⟨r2, hk2, h⟩ := px_b1_e h
      refine pw_cV1 (4, 1, 1) [.inl v1] [] (px_at td_PR_waiting 10 rfl) lV_PR_190 rfl rfl rfl (Nat.le_of_ble_eq_true rfl) (by decide) (k_Qu_at hk2) ?_
      refine pw_goto 35 (px_at td_PR_waiting 11 rfl) (by decide) ?_
      obtain rfl := Option.some.inj h
      exact pw_iret (px_at td_PR_waiting 17 rfl) rfl (Nat.le_refl 0) (Nat.le_refl 0) hR
  · refine pw_if_ge 6 (px_at td_PR_waiting 1 rfl) (by decide) (fun hn => absurd hn hc4) (fun _ => ?_)
    refine pw_iconst (v := (-1)) (px_at td_PR_waiting 2 rfl) (by decide) ?_
    obtain rfl := Option.some.inj h
    exact pw_iret (px_at td_PR_waiting 3 rfl) rfl (Nat.le_refl 0) (Nat.le_refl 0) hR
theorem k_PR_waiting {l : Launch} {ids : List pxI} {σ : pxS} {v1 : Int32} {v2 : Int32} {res : Int32} (h : F_PR_waiting σ v1 v2 = some res) : pm l y_PR_waiting c_PR_waiting 3 (some .int) (px_R 2) [.inr (some (0, 0, 0)), .inl v1, .inl v2] ids cG σ (px_r (some (.inl res)) ids cG σ) :=
  pm_ofF (by decide +kernel) (Nat.le_of_ble_eq_true rfl) (e_PR_waiting h ⟨rfl, rfl, rfl, rfl⟩)
/-! PR_sequence -/
def F_PR_sequence (σ : pxS) (v1 : Int32) : Option (Int32) :=
  (if v1 = 0 then some ((σ (2, 1, 0) 7)) else (if v1 = 1 then some ((σ (2, 1, 0) 8)) else (if v1 = 2 then some ((σ (2, 1, 0) 9)) else some ((-1)))))
set_option maxRecDepth 100000 in
theorem e_PR_sequence {l : Launch} {ids : List pxI} {Rt : Option pxV → List pxI → pxG → pxS → Prop} {σ : pxS} {v1 : Int32} {res : Int32} (h : F_PR_sequence σ v1 = some res) (hR : Rt (some (.inl res)) ids cG σ) : pw l (px_R 1) y_PR_sequence c_PR_sequence 2 (some .int) 0 [(0, .inr (some (0, 0, 0))), (1, .inl v1)] [] ids cG σ 0 0 Rt := by
  unfold F_PR_sequence at h
  refine pw_iload_n 1 (px_at td_PR_sequence 0 rfl) rfl rfl ?_
  rcases px_ite h with ⟨hs1_0, h⟩ | ⟨hs1_0, h⟩
  · refine pw_tin (off := 27) 0 28 (px_at td_PR_sequence 1 rfl) hs1_0 (by decide) (by decide) (by decide) (by decide) ?_
    refine pw_aload_n 0 (px_at td_PR_sequence 2 rfl) rfl rfl ?_
    refine pw_getf (v := .inr (some (2, 1, 0))) (px_at td_PR_sequence 3 rfl) lf_PR_49 rfl rfl rfl ?_
    refine pw_getf (v := .inl (σ (2, 1, 0) 7)) (px_at td_PR_sequence 4 rfl) lf_PR_121 rfl rfl rfl ?_
    obtain rfl := Option.some.inj h
    exact pw_iret (px_at td_PR_sequence 5 rfl) rfl (Nat.le_refl 0) (Nat.le_refl 0) hR
  · have hd1_0 := trivial
    rcases px_ite h with ⟨hs1_1, h⟩ | ⟨hs1_1, h⟩
    · refine pw_tin (off := 35) 1 36 (px_at td_PR_sequence 1 rfl) hs1_1 (by decide) (by decide) (by decide) (by decide) ?_
      refine pw_aload_n 0 (px_at td_PR_sequence 6 rfl) rfl rfl ?_
      refine pw_getf (v := .inr (some (2, 1, 0))) (px_at td_PR_sequence 7 rfl) lf_PR_49 rfl rfl rfl ?_
      refine pw_getf (v := .inl (σ (2, 1, 0) 8)) (px_at td_PR_sequence 8 rfl) lf_PR_198 rfl rfl rfl ?_
      obtain rfl := Option.some.inj h
      exact pw_iret (px_at td_PR_sequence 9 rfl) rfl (Nat.le_refl 0) (Nat.le_refl 0) hR
    · have hd1_1 := trivial
      rcases px_ite h with ⟨hs1_2, h⟩ | ⟨hs1_2, h⟩
      · refine pw_tin (off := 43) 2 44 (px_at td_PR_sequence 1 rfl) hs1_2 (by decide) (by decide) (by decide) (by decide) ?_
        refine pw_aload_n 0 (px_at td_PR_sequence 10 rfl) rfl rfl ?_
        refine pw_getf (v := .inr (some (2, 1, 0))) (px_at td_PR_sequence 11 rfl) lf_PR_49 rfl rfl rfl ?_
        refine pw_getf (v := .inl (σ (2, 1, 0) 9)) (px_at td_PR_sequence 12 rfl) lf_PR_201 rfl rfl rfl ?_
        obtain rfl := Option.some.inj h
        exact pw_iret (px_at td_PR_sequence 13 rfl) rfl (Nat.le_refl 0) (Nat.le_refl 0) hR
      · have hd1_2 := trivial
        refine pw_tout 52 (px_at td_PR_sequence 1 rfl) (px_out [0, 1, 2] (by decide) (by simp only [List.forall_mem_cons]; exact ⟨hs1_0, hs1_1, hs1_2, fun _ hm => absurd hm List.not_mem_nil⟩)) (by decide) ?_
        refine pw_iconst (v := (-1)) (px_at td_PR_sequence 14 rfl) (by decide) ?_
        obtain rfl := Option.some.inj h
        exact pw_iret (px_at td_PR_sequence 15 rfl) rfl (Nat.le_refl 0) (Nat.le_refl 0) hR
theorem k_PR_sequence {l : Launch} {ids : List pxI} {σ : pxS} {v1 : Int32} {res : Int32} (h : F_PR_sequence σ v1 = some res) : pm l y_PR_sequence c_PR_sequence 2 (some .int) (px_R 1) [.inr (some (0, 0, 0)), .inl v1] ids cG σ (px_r (some (.inl res)) ids cG σ) :=
  pm_ofF (by decide +kernel) (Nat.le_of_ble_eq_true rfl) (e_PR_sequence h ⟨rfl, rfl, rfl, rfl⟩)
/-! PR_step -/
def PR_step_n15 (σ : pxS)  : Option (Int32) :=
  some ((-1))
set_option maxRecDepth 100000 in
theorem PR_step_n15_l {l : Launch} {ids : List pxI} {Rt : Option pxV → List pxI → pxG → pxS → Prop} {σ : pxS}  {res : Int32} (h : PR_step_n15 σ  = some res) (hR : Rt (some (.inl res)) ids cG σ) : pw l (px_R 1) y_PR_step c_PR_step 3 (some .int) 15 [] [] ids cG σ 0 0 Rt := by
  unfold PR_step_n15 at h
  refine pw_iconst (v := (-1)) (px_at td_PR_step 7 rfl) (by decide) ?_
  obtain rfl := Option.some.inj h
  exact pw_iret (px_at td_PR_step 8 rfl) rfl (Nat.le_refl 0) (Nat.le_refl 0) hR
def F_PR_step (σ : pxS) (v1 : Int32) (v2 : Int32) : Option (Int32) :=
  (if v1 < 0 then PR_step_n15 σ  else (if v1 < (σ (1, (σ (0, 0, 0) 6).toNatClampNeg, 0) 2) then (if v2 = 0 then px_gd v1 24 (some ((σ (8, (σ (0, 0, 0) 6).toNatClampNeg, 11) v1.toNatClampNeg))) else (if v2 = 1 then px_gd v1 24 (some ((σ (8, (σ (0, 0, 0) 6).toNatClampNeg, 12) v1.toNatClampNeg))) else (if v2 = 2 then px_gd v1 24 (some ((σ (8, (σ (0, 0, 0) 6).toNatClampNeg, 13) v1.toNatClampNeg))) else some ((-1))))) else PR_step_n15 σ ))
set_option maxRecDepth 100000 in
theorem e_PR_step {l : Launch} {ids : List pxI} {Rt : Option pxV → List pxI → pxG → pxS → Prop} {σ : pxS} {v1 : Int32} {v2 : Int32} {res : Int32} (h : F_PR_step σ v1 v2 = some res) (hR : Rt (some (.inl res)) ids cG σ) : pw l (px_R 1) y_PR_step c_PR_step 3 (some .int) 0 [(0, .inr (some (0, 0, 0))), (1, .inl v1), (2, .inl v2)] [] ids cG σ 0 0 Rt := by
  unfold F_PR_step at h
  refine pw_iload_n 1 (px_at td_PR_step 0 rfl) rfl rfl ?_
  rcases px_ite h with ⟨hc6, h⟩ | ⟨hc6, h⟩
  · refine pw_if_lt 15 (px_at td_PR_step 1 rfl) (by decide) (fun _ => ?_) (fun hn => absurd hc6 hn)
    refine pw_L [] [] rfl ?_
    exact PR_step_n15_l h hR
  · refine pw_if_lt 15 (px_at td_PR_step 1 rfl) (by decide) (fun hn => absurd hn hc6) (fun _ => ?_)
    refine pw_iload_n 1 (px_at td_PR_step 2 rfl) rfl rfl ?_
    refine pw_aload_n 0 (px_at td_PR_step 3 rfl) rfl rfl ?_
    refine pw_getf (v := .inr (some (1, (σ (0, 0, 0) 6).toNatClampNeg, 0))) (px_at td_PR_step 4 rfl) lf_PR_31 rfl rfl rfl ?_
    refine pw_getf (v := .inl (σ (1, (σ (0, 0, 0) 6).toNatClampNeg, 0) 2)) (px_at td_PR_step 5 rfl) lf_PR_118 rfl rfl rfl ?_
    rcases px_ite h with ⟨hc5, h⟩ | ⟨hc5, h⟩
    · refine pw_icmp_lt 17 (px_at td_PR_step 6 rfl) (by decide) (fun _ => ?_) (fun hn => absurd hc5 hn)
      refine pw_iload_n 2 (px_at td_PR_step 9 rfl) rfl rfl ?_
      rcases px_ite h with ⟨hs1_0, h⟩ | ⟨hs1_0, h⟩
      · refine pw_tin (off := 26) 0 44 (px_at td_PR_step 10 rfl) hs1_0 (by decide) (by decide) (by decide) (by decide) ?_
        refine pw_aload_n 0 (px_at td_PR_step 11 rfl) rfl rfl ?_
        refine pw_getf (v := .inr (some (1, (σ (0, 0, 0) 6).toNatClampNeg, 0))) (px_at td_PR_step 12 rfl) lf_PR_31 rfl rfl rfl ?_
        refine pw_getf (v := .inr (some (8, (σ (0, 0, 0) 6).toNatClampNeg, 11))) (px_at td_PR_step 13 rfl) lf_PR_204 rfl rfl rfl ?_
        refine pw_iload_n 1 (px_at td_PR_step 14 rfl) rfl rfl ?_
        obtain ⟨hi2, h⟩ := px_gd_e h
        refine pw_ial (px_at td_PR_step 15 rfl) rfl hi2 rfl ?_
        obtain rfl := Option.some.inj h
        exact pw_iret (px_at td_PR_step 16 rfl) rfl (Nat.le_refl 0) (Nat.le_refl 0) hR
      · have hd1_0 := trivial
        rcases px_ite h with ⟨hs1_1, h⟩ | ⟨hs1_1, h⟩
        · refine pw_tin (off := 36) 1 54 (px_at td_PR_step 10 rfl) hs1_1 (by decide) (by decide) (by decide) (by decide) ?_
          refine pw_aload_n 0 (px_at td_PR_step 17 rfl) rfl rfl ?_
          refine pw_getf (v := .inr (some (1, (σ (0, 0, 0) 6).toNatClampNeg, 0))) (px_at td_PR_step 18 rfl) lf_PR_31 rfl rfl rfl ?_
          refine pw_getf (v := .inr (some (8, (σ (0, 0, 0) 6).toNatClampNeg, 12))) (px_at td_PR_step 19 rfl) lf_PR_207 rfl rfl rfl ?_
          refine pw_iload_n 1 (px_at td_PR_step 20 rfl) rfl rfl ?_
          obtain ⟨hi3, h⟩ := px_gd_e h
          refine pw_ial (px_at td_PR_step 21 rfl) rfl hi3 rfl ?_
          obtain rfl := Option.some.inj h
          exact pw_iret (px_at td_PR_step 22 rfl) rfl (Nat.le_refl 0) (Nat.le_refl 0) hR
        · have hd1_1 := trivial
          rcases px_ite h with ⟨hs1_2, h⟩ | ⟨hs1_2, h⟩
          · refine pw_tin (off := 46) 2 64 (px_at td_PR_step 10 rfl) hs1_2 (by decide) (by decide) (by decide) (by decide) ?_
            refine pw_aload_n 0 (px_at td_PR_step 23 rfl) rfl rfl ?_
            refine pw_getf (v := .inr (some (1, (σ (0, 0, 0) 6).toNatClampNeg, 0))) (px_at td_PR_step 24 rfl) lf_PR_31 rfl rfl rfl ?_
            refine pw_getf (v := .inr (some (8, (σ (0, 0, 0) 6).toNatClampNeg, 13))) (px_at td_PR_step 25 rfl) lf_PR_210 rfl rfl rfl ?_
            refine pw_iload_n 1 (px_at td_PR_step 26 rfl) rfl rfl ?_
            obtain ⟨hi4, h⟩ := px_gd_e h
            refine pw_ial (px_at td_PR_step 27 rfl) rfl hi4 rfl ?_
            obtain rfl := Option.some.inj h
            exact pw_iret (px_at td_PR_step 28 rfl) rfl (Nat.le_refl 0) (Nat.le_refl 0) hR
          · have hd1_2 := trivial
            refine pw_tout 74 (px_at td_PR_step 10 rfl) (px_out [0, 1, 2] (by decide) (by simp only [List.forall_mem_cons]; exact ⟨hs1_0, hs1_1, hs1_2, fun _ hm => absurd hm List.not_mem_nil⟩)) (by decide) ?_
            refine pw_iconst (v := (-1)) (px_at td_PR_step 29 rfl) (by decide) ?_
            obtain rfl := Option.some.inj h
            exact pw_iret (px_at td_PR_step 30 rfl) rfl (Nat.le_refl 0) (Nat.le_refl 0) hR
    · refine pw_icmp_lt 17 (px_at td_PR_step 6 rfl) (by decide) (fun hn => absurd hn hc5) (fun _ => ?_)
      refine pw_L [] [] rfl ?_
      exact PR_step_n15_l h hR
theorem k_PR_step {l : Launch} {ids : List pxI} {σ : pxS} {v1 : Int32} {v2 : Int32} {res : Int32} (h : F_PR_step σ v1 v2 = some res) : pm l y_PR_step c_PR_step 3 (some .int) (px_R 1) [.inr (some (0, 0, 0)), .inl v1, .inl v2] ids cG σ (px_r (some (.inl res)) ids cG σ) :=
  pm_ofF (by decide +kernel) (Nat.le_of_ble_eq_true rfl) (e_PR_step h ⟨rfl, rfl, rfl, rfl⟩)
/-! PR_why -/
def F_PR_why (σ : pxS) (v1 : Int32) : Option (Int32) :=
  px_b1 (F_PR_isRail σ v1) fun r1 =>
  (if r1 = 0 then some ((-1)) else px_gd v1 12 ((if (σ (3, 1, v1.toNatClampNeg) 2) = 1 then px_b1 (F_Bo_goodRails σ 1) fun r3 =>
  px_b1 (F_Bo_heldBy σ 1 v1 r3) fun r4 =>
  some (r4) else some ((-2)))))
set_option maxRecDepth 100000 in
theorem e_PR_why {l : Launch} {ids : List pxI} {Rt : Option pxV → List pxI → pxG → pxS → Prop} {σ : pxS} {v1 : Int32} {res : Int32} (h : F_PR_why σ v1 = some res) (hR : Rt (some (.inl res)) ids cG σ) : pw l (px_R 3) y_PR_why c_PR_why 2 (some .int) 0 [(0, .inr (some (0, 0, 0))), (1, .inl v1)] [] ids cG σ 0 0 Rt := by
  unfold F_PR_why at h
  refine pw_aload_n 0 (px_at td_PR_why 0 rfl) rfl rfl ?_
  refine pw_iload_n 1 (px_at td_PR_why 1 rfl) rfl rfl ?_
  obtain ⟨r1, hk1, h⟩ := px_b1_e h
  refine pw_cV1 (0, 0, 0) [.inl v1] [] (px_at td_PR_why 2 rfl) lV_PR_101 rfl rfl rfl (Nat.le_of_ble_eq_true rfl) (by decide) (k_PR_isRail hk1) ?_
  rcases px_ite h with ⟨hc6, h⟩ | ⟨hc6, h⟩
  · refine pw_if_ne 10 (px_at td_PR_why 3 rfl) (by decide) (fun hn => absurd hc6 hn) (fun _ => ?_)
    refine pw_iconst (v := (-1)) (px_at td_PR_why 4 rfl) (by decide) ?_
    obtain rfl := Option.some.inj h
    exact pw_iret (px_at td_PR_why 5 rfl) rfl (Nat.le_refl 0) (Nat.le_refl 0) hR
  · refine pw_if_ne 10 (px_at td_PR_why 3 rfl) (by decide) (fun _ => ?_) (fun hn => absurd hn hc6)
    refine pw_aload_n 0 (px_at td_PR_why 6 rfl) rfl rfl ?_
    refine pw_getf (v := .inr (some (2, 1, 0))) (px_at td_PR_why 7 rfl) lf_PR_49 rfl rfl rfl ?_
    refine pw_getf (v := .inr (some (9, 1, 0))) (px_at td_PR_why 8 rfl) lf_PR_109 rfl rfl rfl ?_
    refine pw_iload_n 1 (px_at td_PR_why 9 rfl) rfl rfl ?_
    obtain ⟨hi2, h⟩ := px_gd_e h
    refine pw_aald (r := (3, 1, v1.toNatClampNeg)) (px_at td_PR_why 10 rfl) rfl (fun _ => rfl) hi2 rfl ?_
    refine pw_getf (v := .inl (σ (3, 1, v1.toNatClampNeg) 2)) (px_at td_PR_why 11 rfl) lf_PR_113 rfl rfl rfl ?_
    refine pw_iconst (v := 1) (px_at td_PR_why 12 rfl) (by decide) ?_
    rcases px_ite h with ⟨hc5, h⟩ | ⟨hc5, h⟩
    · refine pw_icmp_eq 29 (px_at td_PR_why 13 rfl) (by decide) (fun _ => ?_) (fun hn => absurd hc5 hn)
      refine pw_aload_n 0 (px_at td_PR_why 16 rfl) rfl rfl ?_
      refine pw_getf (v := .inr (some (2, 1, 0))) (px_at td_PR_why 17 rfl) lf_PR_49 rfl rfl rfl ?_
      refine pw_iload_n 1 (px_at td_PR_why 18 rfl) rfl rfl ?_
      refine pw_aload_n 0 (px_at td_PR_why 19 rfl) rfl rfl ?_
      refine pw_getf (v := .inr (some (2, 1, 0))) (px_at td_PR_why 20 rfl) lf_PR_49 rfl rfl rfl ?_
      obtain ⟨r3, hk3, h⟩ := px_b1_e h
      refine pw_cV1 (2, 1, 0) [] [.inl v1, .inr (some (2, 1, 0))] (px_at td_PR_why 21 rfl) lV_PR_213 rfl rfl rfl (Nat.le_of_ble_eq_true rfl) (by decide) (k_Bo_goodRails hk3) ?_
      obtain ⟨r4, hk4, h⟩ := px_b1_e h
      refine pw_cV1 (2, 1, 0) [.inl v1, .inl r3] [] (px_at td_PR_why 22 rfl) lV_PR_217 rfl rfl rfl (Nat.le_of_ble_eq_true rfl) (by decide) (k_Bo_heldBy hk4) ?_
      obtain rfl := Option.some.inj h
      exact pw_iret (px_at td_PR_why 23 rfl) rfl (Nat.le_refl 0) (Nat.le_refl 0) hR
    · refine pw_icmp_eq 29 (px_at td_PR_why 13 rfl) (by decide) (fun hn => absurd hn hc5) (fun _ => ?_)
      refine pw_bipush (v := (-2)) (px_at td_PR_why 14 rfl) (by decide) ?_
      obtain rfl := Option.some.inj h
      exact pw_iret (px_at td_PR_why 15 rfl) rfl (Nat.le_refl 0) (Nat.le_refl 0) hR
theorem k_PR_why {l : Launch} {ids : List pxI} {σ : pxS} {v1 : Int32} {res : Int32} (h : F_PR_why σ v1 = some res) : pm l y_PR_why c_PR_why 2 (some .int) (px_R 3) [.inr (some (0, 0, 0)), .inl v1] ids cG σ (px_r (some (.inl res)) ids cG σ) :=
  pm_ofF (by decide +kernel) (Nat.le_of_ble_eq_true rfl) (e_PR_why h ⟨rfl, rfl, rfl, rfl⟩)
/-! PR_ring -/
def F_PR_ring (σ : pxS) (v1 : Int32) : Option (Int32) :=
  (if 0 ≤ v1 then px_b1 (F_Ri_railAt σ (σ (0, 0, 0) 6) v1) fun r1 =>
  some (r1) else some ((-1)))
set_option maxRecDepth 100000 in
theorem e_PR_ring {l : Launch} {ids : List pxI} {Rt : Option pxV → List pxI → pxG → pxS → Prop} {σ : pxS} {v1 : Int32} {res : Int32} (h : F_PR_ring σ v1 = some res) (hR : Rt (some (.inl res)) ids cG σ) : pw l (px_R 4) y_PR_ring c_PR_ring 2 (some .int) 0 [(0, .inr (some (0, 0, 0))), (1, .inl v1)] [] ids cG σ 0 0 Rt := by
  unfold F_PR_ring at h
  refine pw_iload_n 1 (px_at td_PR_ring 0 rfl) rfl rfl ?_
  rcases px_ite h with ⟨hc2, h⟩ | ⟨hc2, h⟩
  · refine pw_if_ge 6 (px_at td_PR_ring 1 rfl) (by decide) (fun _ => ?_) (fun hn => absurd hc2 hn)
    refine pw_aload_n 0 (px_at td_PR_ring 4 rfl) rfl rfl ?_
    refine pw_getf (v := .inr (some (1, (σ (0, 0, 0) 6).toNatClampNeg, 0))) (px_at td_PR_ring 5 rfl) lf_PR_31 rfl rfl rfl ?_
    refine pw_iload_n 1 (px_at td_PR_ring 6 rfl) rfl rfl ?_
    obtain ⟨r1, hk1, h⟩ := px_b1_e h
    refine pw_cS1 [.inr (some (1, (σ (0, 0, 0) 6).toNatClampNeg, 0)), .inl v1] [] (px_at td_PR_ring 7 rfl) lS_PR_221 rfl rfl (Nat.le_of_ble_eq_true rfl) (by decide) (k_Ri_railAt hk1) ?_
    obtain rfl := Option.some.inj h
    exact pw_iret (px_at td_PR_ring 8 rfl) rfl (Nat.le_refl 0) (Nat.le_refl 0) hR
  · refine pw_if_ge 6 (px_at td_PR_ring 1 rfl) (by decide) (fun hn => absurd hn hc2) (fun _ => ?_)
    refine pw_iconst (v := (-1)) (px_at td_PR_ring 2 rfl) (by decide) ?_
    obtain rfl := Option.some.inj h
    exact pw_iret (px_at td_PR_ring 3 rfl) rfl (Nat.le_refl 0) (Nat.le_refl 0) hR
theorem k_PR_ring {l : Launch} {ids : List pxI} {σ : pxS} {v1 : Int32} {res : Int32} (h : F_PR_ring σ v1 = some res) : pm l y_PR_ring c_PR_ring 2 (some .int) (px_R 4) [.inr (some (0, 0, 0)), .inl v1] ids cG σ (px_r (some (.inl res)) ids cG σ) :=
  pm_ofF (by decide +kernel) (Nat.le_of_ble_eq_true rfl) (e_PR_ring h ⟨rfl, rfl, rfl, rfl⟩)
/-! PR_never -/
def F_PR_never (σ : pxS) (v1 : Int32) : Option (Int32) :=
  (if v1 = 0 then px_b1 (F_Ri_within σ (σ (0, 0, 0) 6)) fun r2 =>
  some (r2) else (if v1 = 1 then px_b1 (F_Ri_withinOrAbove σ (σ (0, 0, 0) 6)) fun r3 =>
  some (r3) else some ((-1))))
set_option maxRecDepth 100000 in
theorem e_PR_never {l : Launch} {ids : List pxI} {Rt : Option pxV → List pxI → pxG → pxS → Prop} {σ : pxS} {v1 : Int32} {res : Int32} (h : F_PR_never σ v1 = some res) (hR : Rt (some (.inl res)) ids cG σ) : pw l (px_R 3) y_PR_never c_PR_never 2 (some .int) 0 [(0, .inr (some (0, 0, 0))), (1, .inl v1)] [] ids cG σ 0 0 Rt := by
  unfold F_PR_never at h
  refine pw_iload_n 1 (px_at td_PR_never 0 rfl) rfl rfl ?_
  rcases px_ite h with ⟨hs1_0, h⟩ | ⟨hs1_0, h⟩
  · refine pw_look (off := 27) 28 (px_at td_PR_never 1 rfl) (by decide) (px_look2 (Or.inl ⟨hs1_0, rfl⟩)) (by decide) ?_
    refine pw_aload_n 0 (px_at td_PR_never 2 rfl) rfl rfl ?_
    refine pw_getf (v := .inr (some (1, (σ (0, 0, 0) 6).toNatClampNeg, 0))) (px_at td_PR_never 3 rfl) lf_PR_31 rfl rfl rfl ?_
    obtain ⟨r2, hk2, h⟩ := px_b1_e h
    refine pw_cS1 [.inr (some (1, (σ (0, 0, 0) 6).toNatClampNeg, 0))] [] (px_at td_PR_never 4 rfl) lS_PR_227 rfl rfl (Nat.le_of_ble_eq_true rfl) (by decide) (k_Ri_within hk2) ?_
    obtain rfl := Option.some.inj h
    exact pw_iret (px_at td_PR_never 5 rfl) rfl (Nat.le_refl 0) (Nat.le_refl 0) hR
  · have hd1_0 := trivial
    rcases px_ite h with ⟨hs1_1, h⟩ | ⟨hs1_1, h⟩
    · refine pw_look (off := 35) 36 (px_at td_PR_never 1 rfl) (by decide) (px_look2 (Or.inr (Or.inl ⟨hs1_1, rfl⟩))) (by decide) ?_
      refine pw_aload_n 0 (px_at td_PR_never 6 rfl) rfl rfl ?_
      refine pw_getf (v := .inr (some (1, (σ (0, 0, 0) 6).toNatClampNeg, 0))) (px_at td_PR_never 7 rfl) lf_PR_31 rfl rfl rfl ?_
      obtain ⟨r3, hk3, h⟩ := px_b1_e h
      refine pw_cS1 [.inr (some (1, (σ (0, 0, 0) 6).toNatClampNeg, 0))] [] (px_at td_PR_never 8 rfl) lS_PR_231 rfl rfl (Nat.le_of_ble_eq_true rfl) (by decide) (k_Ri_withinOrAbove hk3) ?_
      obtain rfl := Option.some.inj h
      exact pw_iret (px_at td_PR_never 9 rfl) rfl (Nat.le_refl 0) (Nat.le_refl 0) hR
    · have hd1_1 := trivial
      refine pw_look (off := 43) 44 (px_at td_PR_never 1 rfl) (by decide) (px_look2 (Or.inr (Or.inr ⟨hs1_0, hs1_1, rfl⟩))) (by decide) ?_
      refine pw_iconst (v := (-1)) (px_at td_PR_never 10 rfl) (by decide) ?_
      obtain rfl := Option.some.inj h
      exact pw_iret (px_at td_PR_never 11 rfl) rfl (Nat.le_refl 0) (Nat.le_refl 0) hR
theorem k_PR_never {l : Launch} {ids : List pxI} {σ : pxS} {v1 : Int32} {res : Int32} (h : F_PR_never σ v1 = some res) : pm l y_PR_never c_PR_never 2 (some .int) (px_R 3) [.inr (some (0, 0, 0)), .inl v1] ids cG σ (px_r (some (.inl res)) ids cG σ) :=
  pm_ofF (by decide +kernel) (Nat.le_of_ble_eq_true rfl) (e_PR_never h ⟨rfl, rfl, rfl, rfl⟩)
/-! PR_order -/
def F_PR_order (σ : pxS) (v1 : Int32) : Option (Int32) :=
  px_b1 (F_PR_isRail σ v1) fun r1 =>
  (if r1 = 0 then some ((-1)) else px_b1 (F_Or_railAt σ 1 v1) fun r2 =>
  some (r2))
set_option maxRecDepth 100000 in
theorem e_PR_order {l : Launch} {ids : List pxI} {Rt : Option pxV → List pxI → pxG → pxS → Prop} {σ : pxS} {v1 : Int32} {res : Int32} (h : F_PR_order σ v1 = some res) (hR : Rt (some (.inl res)) ids cG σ) : pw l (px_R 6) y_PR_order c_PR_order 2 (some .int) 0 [(0, .inr (some (0, 0, 0))), (1, .inl v1)] [] ids cG σ 0 0 Rt := by
  unfold F_PR_order at h
  refine pw_aload_n 0 (px_at td_PR_order 0 rfl) rfl rfl ?_
  refine pw_iload_n 1 (px_at td_PR_order 1 rfl) rfl rfl ?_
  obtain ⟨r1, hk1, h⟩ := px_b1_e h
  refine pw_cV1 (0, 0, 0) [.inl v1] [] (px_at td_PR_order 2 rfl) lV_PR_101 rfl rfl rfl (Nat.le_of_ble_eq_true rfl) (by decide) (k_PR_isRail hk1) ?_
  rcases px_ite h with ⟨hc3, h⟩ | ⟨hc3, h⟩
  · refine pw_if_ne 10 (px_at td_PR_order 3 rfl) (by decide) (fun hn => absurd hc3 hn) (fun _ => ?_)
    refine pw_iconst (v := (-1)) (px_at td_PR_order 4 rfl) (by decide) ?_
    obtain rfl := Option.some.inj h
    exact pw_iret (px_at td_PR_order 5 rfl) rfl (Nat.le_refl 0) (Nat.le_refl 0) hR
  · refine pw_if_ne 10 (px_at td_PR_order 3 rfl) (by decide) (fun _ => ?_) (fun hn => absurd hn hc3)
    refine pw_aload_n 0 (px_at td_PR_order 6 rfl) rfl rfl ?_
    refine pw_getf (v := .inr (some (2, 1, 0))) (px_at td_PR_order 7 rfl) lf_PR_49 rfl rfl rfl ?_
    refine pw_iload_n 1 (px_at td_PR_order 8 rfl) rfl rfl ?_
    obtain ⟨r2, hk2, h⟩ := px_b1_e h
    refine pw_cS1 [.inr (some (2, 1, 0)), .inl v1] [] (px_at td_PR_order 9 rfl) lS_PR_234 rfl rfl (Nat.le_of_ble_eq_true rfl) (by decide) (k_Or_railAt hk2) ?_
    obtain rfl := Option.some.inj h
    exact pw_iret (px_at td_PR_order 10 rfl) rfl (Nat.le_refl 0) (Nat.le_refl 0) hR
theorem k_PR_order {l : Launch} {ids : List pxI} {σ : pxS} {v1 : Int32} {res : Int32} (h : F_PR_order σ v1 = some res) : pm l y_PR_order c_PR_order 2 (some .int) (px_R 6) [.inr (some (0, 0, 0)), .inl v1] ids cG σ (px_r (some (.inl res)) ids cG σ) :=
  pm_ofF (by decide +kernel) (Nat.le_of_ble_eq_true rfl) (e_PR_order h ⟨rfl, rfl, rfl, rfl⟩)
/-! PR_heat -/
def F_PR_heat (σ : pxS)  : Option (Int32) :=
  px_b1 (F_Pl_allRails σ (σ (0, 0, 0) 6)) fun r1 =>
  px_b1 (F_Or_leastHeat σ 1 r1) fun r2 =>
  some (r2)
set_option maxRecDepth 100000 in
theorem e_PR_heat {l : Launch} {ids : List pxI} {Rt : Option pxV → List pxI → pxG → pxS → Prop} {σ : pxS}  {res : Int32} (h : F_PR_heat σ  = some res) (hR : Rt (some (.inl res)) ids cG σ) : pw l (px_R 4) y_PR_heat c_PR_heat 1 (some .int) 0 [(0, .inr (some (0, 0, 0)))] [] ids cG σ 0 0 Rt := by
  unfold F_PR_heat at h
  refine pw_aload_n 0 (px_at td_PR_heat 0 rfl) rfl rfl ?_
  refine pw_getf (v := .inr (some (2, 1, 0))) (px_at td_PR_heat 1 rfl) lf_PR_49 rfl rfl rfl ?_
  refine pw_aload_n 0 (px_at td_PR_heat 2 rfl) rfl rfl ?_
  refine pw_getf (v := .inr (some (1, (σ (0, 0, 0) 6).toNatClampNeg, 0))) (px_at td_PR_heat 3 rfl) lf_PR_31 rfl rfl rfl ?_
  obtain ⟨r1, hk1, h⟩ := px_b1_e h
  refine pw_cV1 (1, (σ (0, 0, 0) 6).toNatClampNeg, 0) [] [.inr (some (2, 1, 0))] (px_at td_PR_heat 4 rfl) lV_PR_239 rfl rfl rfl (Nat.le_of_ble_eq_true rfl) (by decide) (k_Pl_allRails hk1) ?_
  obtain ⟨r2, hk2, h⟩ := px_b1_e h
  refine pw_cS1 [.inr (some (2, 1, 0)), .inl r1] [] (px_at td_PR_heat 5 rfl) lS_PR_242 rfl rfl (Nat.le_of_ble_eq_true rfl) (by decide) (k_Or_leastHeat hk2) ?_
  obtain rfl := Option.some.inj h
  exact pw_iret (px_at td_PR_heat 6 rfl) rfl (Nat.le_refl 0) (Nat.le_refl 0) hR
theorem k_PR_heat {l : Launch} {ids : List pxI} {σ : pxS}  {res : Int32} (h : F_PR_heat σ  = some res) : pm l y_PR_heat c_PR_heat 1 (some .int) (px_R 4) [.inr (some (0, 0, 0))] ids cG σ (px_r (some (.inl res)) ids cG σ) :=
  pm_ofF (by decide +kernel) (Nat.le_of_ble_eq_true rfl) (e_PR_heat h ⟨rfl, rfl, rfl, rfl⟩)
/-! PR_total -/
def F_PR_total (σ : pxS)  : Option (Int32) :=
  some ((σ (2, 1, 0) 6))
set_option maxRecDepth 100000 in
theorem e_PR_total {l : Launch} {ids : List pxI} {Rt : Option pxV → List pxI → pxG → pxS → Prop} {σ : pxS}  {res : Int32} (h : F_PR_total σ  = some res) (hR : Rt (some (.inl res)) ids cG σ) : pw l (px_R 1) y_PR_total c_PR_total 1 (some .int) 0 [(0, .inr (some (0, 0, 0)))] [] ids cG σ 0 0 Rt := by
  unfold F_PR_total at h
  refine pw_aload_n 0 (px_at td_PR_total 0 rfl) rfl rfl ?_
  refine pw_getf (v := .inr (some (2, 1, 0))) (px_at td_PR_total 1 rfl) lf_PR_49 rfl rfl rfl ?_
  refine pw_getf (v := .inl (σ (2, 1, 0) 6)) (px_at td_PR_total 2 rfl) lf_PR_245 rfl rfl rfl ?_
  obtain rfl := Option.some.inj h
  exact pw_iret (px_at td_PR_total 3 rfl) rfl (Nat.le_refl 0) (Nat.le_refl 0) hR
theorem k_PR_total {l : Launch} {ids : List pxI} {σ : pxS}  {res : Int32} (h : F_PR_total σ  = some res) : pm l y_PR_total c_PR_total 1 (some .int) (px_R 1) [.inr (some (0, 0, 0))] ids cG σ (px_r (some (.inl res)) ids cG σ) :=
  pm_ofF (by decide +kernel) (Nat.le_of_ble_eq_true rfl) (e_PR_total h ⟨rfl, rfl, rfl, rfl⟩)
/-! PR_log -/
def PR_log_n15 (σ : pxS)  : Option (Int32) :=
  some ((-1))
set_option maxRecDepth 100000 in
theorem PR_log_n15_l {l : Launch} {ids : List pxI} {Rt : Option pxV → List pxI → pxG → pxS → Prop} {σ : pxS}  {res : Int32} (h : PR_log_n15 σ  = some res) (hR : Rt (some (.inl res)) ids cG σ) : pw l (px_R 3) y_PR_log c_PR_log 4 (some .int) 15 [] [] ids cG σ 0 0 Rt := by
  unfold PR_log_n15 at h
  refine pw_iconst (v := (-1)) (px_at td_PR_log 7 rfl) (by decide) ?_
  obtain rfl := Option.some.inj h
  exact pw_iret (px_at td_PR_log 8 rfl) rfl (Nat.le_refl 0) (Nat.le_refl 0) hR
def F_PR_log (σ : pxS) (v1 : Int32) (v2 : Int32) : Option (Int32) :=
  (if v1 < 0 then PR_log_n15 σ  else px_b1 (F_Bo_logKept σ 1) fun r1 =>
  (if v1 < r1 then px_b1 (F_Bo_logEntry σ 1 v1) fun r2 =>
  (if v2 = 0 then some ((r2 >>> (7 &&& 31))) else (if v2 = 1 then some ((((r2 >>> (3 &&& 31)) &&& 15) + (-2))) else (if v2 = 2 then some ((r2 &&& 7)) else some ((-1))))) else PR_log_n15 σ ))
set_option maxRecDepth 100000 in
theorem e_PR_log {l : Launch} {ids : List pxI} {Rt : Option pxV → List pxI → pxG → pxS → Prop} {σ : pxS} {v1 : Int32} {v2 : Int32} {res : Int32} (h : F_PR_log σ v1 v2 = some res) (hR : Rt (some (.inl res)) ids cG σ) : pw l (px_R 3) y_PR_log c_PR_log 4 (some .int) 0 [(0, .inr (some (0, 0, 0))), (1, .inl v1), (2, .inl v2)] [] ids cG σ 0 0 Rt := by
  unfold F_PR_log at h
  refine pw_iload_n 1 (px_at td_PR_log 0 rfl) rfl rfl ?_
  rcases px_ite h with ⟨hc5, h⟩ | ⟨hc5, h⟩
  · refine pw_if_lt 15 (px_at td_PR_log 1 rfl) (by decide) (fun _ => ?_) (fun hn => absurd hc5 hn)
    refine pw_L [] [] rfl ?_
    exact PR_log_n15_l h hR
  · refine pw_if_lt 15 (px_at td_PR_log 1 rfl) (by decide) (fun hn => absurd hn hc5) (fun _ => ?_)
    refine pw_iload_n 1 (px_at td_PR_log 2 rfl) rfl rfl ?_
    refine pw_aload_n 0 (px_at td_PR_log 3 rfl) rfl rfl ?_
    refine pw_getf (v := .inr (some (2, 1, 0))) (px_at td_PR_log 4 rfl) lf_PR_49 rfl rfl rfl ?_
    obtain ⟨r1, hk1, h⟩ := px_b1_e h
    refine pw_cV1 (2, 1, 0) [] [.inl v1] (px_at td_PR_log 5 rfl) lV_PR_248 rfl rfl rfl (Nat.le_of_ble_eq_true rfl) (by decide) (k_Bo_logKept hk1) ?_
    rcases px_ite h with ⟨hc4, h⟩ | ⟨hc4, h⟩
    · refine pw_icmp_lt 17 (px_at td_PR_log 6 rfl) (by decide) (fun _ => ?_) (fun hn => absurd hc4 hn)
      refine pw_aload_n 0 (px_at td_PR_log 9 rfl) rfl rfl ?_
      refine pw_getf (v := .inr (some (2, 1, 0))) (px_at td_PR_log 10 rfl) lf_PR_49 rfl rfl rfl ?_
      refine pw_iload_n 1 (px_at td_PR_log 11 rfl) rfl rfl ?_
      obtain ⟨r2, hk2, h⟩ := px_b1_e h
      refine pw_cV1 (2, 1, 0) [.inl v1] [] (px_at td_PR_log 12 rfl) lV_PR_251 rfl rfl rfl (Nat.le_of_ble_eq_true rfl) (by decide) (k_Bo_logEntry hk2) ?_
      refine pw_istore_n (L' := [(3, .inl r2), (0, .inr (some (0, 0, 0))), (1, .inl v1), (2, .inl v2)]) (px_at td_PR_log 13 rfl) rfl (by decide) rfl ?_
      refine pw_iload_n 3 (px_at td_PR_log 14 rfl) rfl rfl ?_
      rcases px_ite h with ⟨hs3_0, h⟩ | ⟨hs3_0, h⟩
      · refine pw_tin (off := 25) 0 52 (px_at td_PR_log 15 rfl) hs3_0 (by decide) (by decide) (by decide) (by decide) ?_
        refine pw_iload_n 0 (px_at td_PR_log 16 rfl) rfl rfl ?_
        refine pw_bipush (v := 7) (px_at td_PR_log 17 rfl) (by decide) ?_
        refine pw_ishr (px_at td_PR_log 18 rfl) ?_
        obtain rfl := Option.some.inj h
        exact pw_iret (px_at td_PR_log 19 rfl) rfl (Nat.le_refl 0) (Nat.le_refl 0) hR
      · have hd3_0 := trivial
        rcases px_ite h with ⟨hs3_1, h⟩ | ⟨hs3_1, h⟩
        · refine pw_tin (off := 30) 1 57 (px_at td_PR_log 15 rfl) hs3_1 (by decide) (by decide) (by decide) (by decide) ?_
          refine pw_iload_n 0 (px_at td_PR_log 20 rfl) rfl rfl ?_
          refine pw_iconst (v := 3) (px_at td_PR_log 21 rfl) (by decide) ?_
          refine pw_ishr (px_at td_PR_log 22 rfl) ?_
          refine pw_bipush (v := 15) (px_at td_PR_log 23 rfl) (by decide) ?_
          refine pw_iand (px_at td_PR_log 24 rfl) ?_
          refine pw_bipush (v := (-2)) (px_at td_PR_log 25 rfl) (by decide) ?_
          refine pw_iadd (px_at td_PR_log 26 rfl) ?_
          obtain rfl := Option.some.inj h
          exact pw_iret (px_at td_PR_log 27 rfl) rfl (Nat.le_refl 0) (Nat.le_refl 0) hR
        · have hd3_1 := trivial
          rcases px_ite h with ⟨hs3_2, h⟩ | ⟨hs3_2, h⟩
          · refine pw_tin (off := 40) 2 67 (px_at td_PR_log 15 rfl) hs3_2 (by decide) (by decide) (by decide) (by decide) ?_
            refine pw_iload_n 0 (px_at td_PR_log 28 rfl) rfl rfl ?_
            refine pw_bipush (v := 7) (px_at td_PR_log 29 rfl) (by decide) ?_
            refine pw_iand (px_at td_PR_log 30 rfl) ?_
            obtain rfl := Option.some.inj h
            exact pw_iret (px_at td_PR_log 31 rfl) rfl (Nat.le_refl 0) (Nat.le_refl 0) hR
          · have hd3_2 := trivial
            refine pw_tout 72 (px_at td_PR_log 15 rfl) (px_out [0, 1, 2] (by decide) (by simp only [List.forall_mem_cons]; exact ⟨hs3_0, hs3_1, hs3_2, fun _ hm => absurd hm List.not_mem_nil⟩)) (by decide) ?_
            refine pw_iconst (v := (-1)) (px_at td_PR_log 32 rfl) (by decide) ?_
            obtain rfl := Option.some.inj h
            exact pw_iret (px_at td_PR_log 33 rfl) rfl (Nat.le_refl 0) (Nat.le_refl 0) hR
    · refine pw_icmp_lt 17 (px_at td_PR_log 6 rfl) (by decide) (fun hn => absurd hn hc4) (fun _ => ?_)
      refine pw_L [] [] rfl ?_
      exact PR_log_n15_l h hR
theorem k_PR_log {l : Launch} {ids : List pxI} {σ : pxS} {v1 : Int32} {v2 : Int32} {res : Int32} (h : F_PR_log σ v1 v2 = some res) : pm l y_PR_log c_PR_log 4 (some .int) (px_R 3) [.inr (some (0, 0, 0)), .inl v1, .inl v2] ids cG σ (px_r (some (.inl res)) ids cG σ) :=
  pm_ofF (by decide +kernel) (Nat.le_of_ble_eq_true rfl) (e_PR_log h ⟨rfl, rfl, rfl, rfl⟩)
/-! PR_count -/
def F_PR_count (σ : pxS) (v1 : Int32) : Option (Int32) :=
  (if v1 = 0 then some ((σ (1, (σ (0, 0, 0) 6).toNatClampNeg, 0) 0)) else (if v1 = 1 then some ((σ (1, (σ (0, 0, 0) 6).toNatClampNeg, 0) 1)) else (if v1 = 2 then some ((σ (1, (σ (0, 0, 0) 6).toNatClampNeg, 0) 2)) else (if v1 = 3 then some ((σ (2, 1, 0) 5)) else (if v1 = 4 then some ((σ (4, 1, 0) 1)) else (if v1 = 5 then some ((σ (4, 1, 1) 1)) else (if v1 = 6 then px_b1 (F_Bo_goodRails σ 1) fun r2 =>
  px_b1 (F_In_bitCount σ r2) fun r3 =>
  some (r3) else (if v1 = 7 then px_b1 (F_Bo_allTrips σ 1) fun r4 =>
  some (r4) else (if v1 = 8 then px_b1 (F_Bo_logKept σ 1) fun r5 =>
  some (r5) else (if v1 = 9 then some ((σ (0, 0, 0) 12)) else (if v1 = 10 then some ((σ (0, 0, 0) 7)) else some ((-1)))))))))))))
set_option maxRecDepth 100000 in
theorem e_PR_count {l : Launch} {ids : List pxI} {Rt : Option pxV → List pxI → pxG → pxS → Prop} {σ : pxS} {v1 : Int32} {res : Int32} (h : F_PR_count σ v1 = some res) (hR : Rt (some (.inl res)) ids cG σ) : pw l (px_R 3) y_PR_count c_PR_count 2 (some .int) 0 [(0, .inr (some (0, 0, 0))), (1, .inl v1)] [] ids cG σ 0 0 Rt := by
  unfold F_PR_count at h
  refine pw_iload_n 1 (px_at td_PR_count 0 rfl) rfl rfl ?_
  rcases px_ite h with ⟨hs1_0, h⟩ | ⟨hs1_0, h⟩
  · refine pw_tin (off := 59) 0 60 (px_at td_PR_count 1 rfl) hs1_0 (by decide) (by decide) (by decide) (by decide) ?_
    refine pw_aload_n 0 (px_at td_PR_count 2 rfl) rfl rfl ?_
    refine pw_getf (v := .inr (some (1, (σ (0, 0, 0) 6).toNatClampNeg, 0))) (px_at td_PR_count 3 rfl) lf_PR_31 rfl rfl rfl ?_
    refine pw_getf (v := .inl (σ (1, (σ (0, 0, 0) 6).toNatClampNeg, 0) 0)) (px_at td_PR_count 4 rfl) lf_PR_254 rfl rfl rfl ?_
    obtain rfl := Option.some.inj h
    exact pw_iret (px_at td_PR_count 5 rfl) rfl (Nat.le_refl 0) (Nat.le_refl 0) hR
  · have hd1_0 := trivial
    rcases px_ite h with ⟨hs1_1, h⟩ | ⟨hs1_1, h⟩
    · refine pw_tin (off := 67) 1 68 (px_at td_PR_count 1 rfl) hs1_1 (by decide) (by decide) (by decide) (by decide) ?_
      refine pw_aload_n 0 (px_at td_PR_count 6 rfl) rfl rfl ?_
      refine pw_getf (v := .inr (some (1, (σ (0, 0, 0) 6).toNatClampNeg, 0))) (px_at td_PR_count 7 rfl) lf_PR_31 rfl rfl rfl ?_
      refine pw_getf (v := .inl (σ (1, (σ (0, 0, 0) 6).toNatClampNeg, 0) 1)) (px_at td_PR_count 8 rfl) lf_PR_256 rfl rfl rfl ?_
      obtain rfl := Option.some.inj h
      exact pw_iret (px_at td_PR_count 9 rfl) rfl (Nat.le_refl 0) (Nat.le_refl 0) hR
    · have hd1_1 := trivial
      rcases px_ite h with ⟨hs1_2, h⟩ | ⟨hs1_2, h⟩
      · refine pw_tin (off := 75) 2 76 (px_at td_PR_count 1 rfl) hs1_2 (by decide) (by decide) (by decide) (by decide) ?_
        refine pw_aload_n 0 (px_at td_PR_count 10 rfl) rfl rfl ?_
        refine pw_getf (v := .inr (some (1, (σ (0, 0, 0) 6).toNatClampNeg, 0))) (px_at td_PR_count 11 rfl) lf_PR_31 rfl rfl rfl ?_
        refine pw_getf (v := .inl (σ (1, (σ (0, 0, 0) 6).toNatClampNeg, 0) 2)) (px_at td_PR_count 12 rfl) lf_PR_118 rfl rfl rfl ?_
        obtain rfl := Option.some.inj h
        exact pw_iret (px_at td_PR_count 13 rfl) rfl (Nat.le_refl 0) (Nat.le_refl 0) hR
      · have hd1_2 := trivial
        rcases px_ite h with ⟨hs1_3, h⟩ | ⟨hs1_3, h⟩
        · refine pw_tin (off := 83) 3 84 (px_at td_PR_count 1 rfl) hs1_3 (by decide) (by decide) (by decide) (by decide) ?_
          refine pw_aload_n 0 (px_at td_PR_count 14 rfl) rfl rfl ?_
          refine pw_getf (v := .inr (some (2, 1, 0))) (px_at td_PR_count 15 rfl) lf_PR_49 rfl rfl rfl ?_
          refine pw_getf (v := .inl (σ (2, 1, 0) 5)) (px_at td_PR_count 16 rfl) lf_PR_92 rfl rfl rfl ?_
          obtain rfl := Option.some.inj h
          exact pw_iret (px_at td_PR_count 17 rfl) rfl (Nat.le_refl 0) (Nat.le_refl 0) hR
        · have hd1_3 := trivial
          rcases px_ite h with ⟨hs1_4, h⟩ | ⟨hs1_4, h⟩
          · refine pw_tin (off := 91) 4 92 (px_at td_PR_count 1 rfl) hs1_4 (by decide) (by decide) (by decide) (by decide) ?_
            refine pw_aload_n 0 (px_at td_PR_count 18 rfl) rfl rfl ?_
            refine pw_getf (v := .inr (some (2, 1, 0))) (px_at td_PR_count 19 rfl) lf_PR_49 rfl rfl rfl ?_
            refine pw_getf (v := .inr (some (4, 1, 0))) (px_at td_PR_count 20 rfl) lf_PR_195 rfl rfl rfl ?_
            refine pw_getf (v := .inl (σ (4, 1, 0) 1)) (px_at td_PR_count 21 rfl) lf_PR_259 rfl rfl rfl ?_
            obtain rfl := Option.some.inj h
            exact pw_iret (px_at td_PR_count 22 rfl) rfl (Nat.le_refl 0) (Nat.le_refl 0) hR
          · have hd1_4 := trivial
            rcases px_ite h with ⟨hs1_5, h⟩ | ⟨hs1_5, h⟩
            · refine pw_tin (off := 102) 5 103 (px_at td_PR_count 1 rfl) hs1_5 (by decide) (by decide) (by decide) (by decide) ?_
              refine pw_aload_n 0 (px_at td_PR_count 23 rfl) rfl rfl ?_
              refine pw_getf (v := .inr (some (2, 1, 0))) (px_at td_PR_count 24 rfl) lf_PR_49 rfl rfl rfl ?_
              refine pw_getf (v := .inr (some (4, 1, 1))) (px_at td_PR_count 25 rfl) lf_PR_186 rfl rfl rfl ?_
              refine pw_getf (v := .inl (σ (4, 1, 1) 1)) (px_at td_PR_count 26 rfl) lf_PR_259 rfl rfl rfl ?_
              obtain rfl := Option.some.inj h
              exact pw_iret (px_at td_PR_count 27 rfl) rfl (Nat.le_refl 0) (Nat.le_refl 0) hR
            · have hd1_5 := trivial
              rcases px_ite h with ⟨hs1_6, h⟩ | ⟨hs1_6, h⟩
              · refine pw_tin (off := 113) 6 114 (px_at td_PR_count 1 rfl) hs1_6 (by decide) (by decide) (by decide) (by decide) ?_
                refine pw_aload_n 0 (px_at td_PR_count 28 rfl) rfl rfl ?_
                refine pw_getf (v := .inr (some (2, 1, 0))) (px_at td_PR_count 29 rfl) lf_PR_49 rfl rfl rfl ?_
                obtain ⟨r2, hk2, h⟩ := px_b1_e h
                refine pw_cV1 (2, 1, 0) [] [] (px_at td_PR_count 30 rfl) lV_PR_213 rfl rfl rfl (Nat.le_of_ble_eq_true rfl) (by decide) (k_Bo_goodRails hk2) ?_
                obtain ⟨r3, hk3, h⟩ := px_b1_e h
                refine pw_cS1 [.inl r2] [] (px_at td_PR_count 31 rfl) lS_PR_262 rfl rfl (Nat.le_of_ble_eq_true rfl) (by decide) (k_In_bitCount hk3) ?_
                obtain rfl := Option.some.inj h
                exact pw_iret (px_at td_PR_count 32 rfl) rfl (Nat.le_refl 0) (Nat.le_refl 0) hR
              · have hd1_6 := trivial
                rcases px_ite h with ⟨hs1_7, h⟩ | ⟨hs1_7, h⟩
                · refine pw_tin (off := 124) 7 125 (px_at td_PR_count 1 rfl) hs1_7 (by decide) (by decide) (by decide) (by decide) ?_
                  refine pw_aload_n 0 (px_at td_PR_count 33 rfl) rfl rfl ?_
                  refine pw_getf (v := .inr (some (2, 1, 0))) (px_at td_PR_count 34 rfl) lf_PR_49 rfl rfl rfl ?_
                  obtain ⟨r4, hk4, h⟩ := px_b1_e h
                  refine pw_cV1 (2, 1, 0) [] [] (px_at td_PR_count 35 rfl) lV_PR_267 rfl rfl rfl (Nat.le_of_ble_eq_true rfl) (by decide) (k_Bo_allTrips hk4) ?_
                  obtain rfl := Option.some.inj h
                  exact pw_iret (px_at td_PR_count 36 rfl) rfl (Nat.le_refl 0) (Nat.le_refl 0) hR
                · have hd1_7 := trivial
                  rcases px_ite h with ⟨hs1_8, h⟩ | ⟨hs1_8, h⟩
                  · refine pw_tin (off := 132) 8 133 (px_at td_PR_count 1 rfl) hs1_8 (by decide) (by decide) (by decide) (by decide) ?_
                    refine pw_aload_n 0 (px_at td_PR_count 37 rfl) rfl rfl ?_
                    refine pw_getf (v := .inr (some (2, 1, 0))) (px_at td_PR_count 38 rfl) lf_PR_49 rfl rfl rfl ?_
                    obtain ⟨r5, hk5, h⟩ := px_b1_e h
                    refine pw_cV1 (2, 1, 0) [] [] (px_at td_PR_count 39 rfl) lV_PR_248 rfl rfl rfl (Nat.le_of_ble_eq_true rfl) (by decide) (k_Bo_logKept hk5) ?_
                    obtain rfl := Option.some.inj h
                    exact pw_iret (px_at td_PR_count 40 rfl) rfl (Nat.le_refl 0) (Nat.le_refl 0) hR
                  · have hd1_8 := trivial
                    rcases px_ite h with ⟨hs1_9, h⟩ | ⟨hs1_9, h⟩
                    · refine pw_tin (off := 140) 9 141 (px_at td_PR_count 1 rfl) hs1_9 (by decide) (by decide) (by decide) (by decide) ?_
                      refine pw_aload_n 0 (px_at td_PR_count 41 rfl) rfl rfl ?_
                      refine pw_getf (v := .inl (σ (0, 0, 0) 12)) (px_at td_PR_count 42 rfl) lf_PR_270 rfl rfl rfl ?_
                      obtain rfl := Option.some.inj h
                      exact pw_iret (px_at td_PR_count 43 rfl) rfl (Nat.le_refl 0) (Nat.le_refl 0) hR
                    · have hd1_9 := trivial
                      rcases px_ite h with ⟨hs1_10, h⟩ | ⟨hs1_10, h⟩
                      · refine pw_tin (off := 145) 10 146 (px_at td_PR_count 1 rfl) hs1_10 (by decide) (by decide) (by decide) (by decide) ?_
                        refine pw_aload_n 0 (px_at td_PR_count 44 rfl) rfl rfl ?_
                        refine pw_getf (v := .inl (σ (0, 0, 0) 7)) (px_at td_PR_count 45 rfl) lf_PR_55 rfl rfl rfl ?_
                        obtain rfl := Option.some.inj h
                        exact pw_iret (px_at td_PR_count 46 rfl) rfl (Nat.le_refl 0) (Nat.le_refl 0) hR
                      · have hd1_10 := trivial
                        refine pw_tout 151 (px_at td_PR_count 1 rfl) (px_out [0, 1, 2, 3, 4, 5, 6, 7, 8, 9, 10] (by decide) (by simp only [List.forall_mem_cons]; exact ⟨hs1_0, hs1_1, hs1_2, hs1_3, hs1_4, hs1_5, hs1_6, hs1_7, hs1_8, hs1_9, hs1_10, fun _ hm => absurd hm List.not_mem_nil⟩)) (by decide) ?_
                        refine pw_iconst (v := (-1)) (px_at td_PR_count 47 rfl) (by decide) ?_
                        obtain rfl := Option.some.inj h
                        exact pw_iret (px_at td_PR_count 48 rfl) rfl (Nat.le_refl 0) (Nat.le_refl 0) hR
theorem k_PR_count {l : Launch} {ids : List pxI} {σ : pxS} {v1 : Int32} {res : Int32} (h : F_PR_count σ v1 = some res) : pm l y_PR_count c_PR_count 2 (some .int) (px_R 3) [.inr (some (0, 0, 0)), .inl v1] ids cG σ (px_r (some (.inl res)) ids cG σ) :=
  pm_ofF (by decide +kernel) (Nat.le_of_ble_eq_true rfl) (e_PR_count h ⟨rfl, rfl, rfl, rfl⟩)
/-! PR_ahead -/
def PR_ahead_n28 (σ : pxS)  : Option (Int32 × pxS) :=
  some ((-1), σ)
set_option maxRecDepth 100000 in
theorem PR_ahead_n28_l {l : Launch} {ids : List pxI} {Rt : Option pxV → List pxI → pxG → pxS → Prop} {σ : pxS}  {res : Int32 × pxS} (h : PR_ahead_n28 σ  = some res) (hR : Rt (some (.inl res.1)) ids cG res.2) : pw l (px_R 7) y_PR_ahead c_PR_ahead 7 (some .int) 28 [] [] ids cG σ 0 0 Rt := by
  unfold PR_ahead_n28 at h
  refine pw_iconst (v := (-1)) (px_at td_PR_ahead 14 rfl) (by decide) ?_
  obtain rfl := Option.some.inj h
  exact pw_iret (px_at td_PR_ahead 15 rfl) rfl (Nat.le_refl 0) (Nat.le_refl 0) hR
def PR_ahead_n62 (σ : pxS) (v1 : Int32) (v2 : Int32) (v3 : Int32) (j4 : Nat) (v5 : Int32) (v6 : Int32) : Option ((Int32 × Int32 × pxS) ⊕ (Int32 × pxS)) :=
  (if v2 ≤ v6 then some (.inr (v5, σ)) else px_b1 (F_Bo_pass σ 2) fun σ4 =>
  some (.inl ((if v5 < (σ4 (3, 2, j4) 5) then (σ4 (3, 2, j4) 5) else v5), (v6 + 1), σ4)))
set_option maxRecDepth 100000 in
theorem PR_ahead_n62_l {l : Launch} {ids : List pxI} {Rt : Option pxV → List pxI → pxG → pxS → Prop} {σ : pxS} {v1 : Int32} {v2 : Int32} {v3 : Int32} {j4 : Nat} {v5 : Int32} {v6 : Int32} {o : (Int32 × Int32 × pxS) ⊕ (Int32 × pxS)} (h : PR_ahead_n62 σ v1 v2 v3 j4 v5 v6 = some o) (hC : ∀ s, o = .inl s → pw l (px_R 7) y_PR_ahead c_PR_ahead 7 (some .int) 62 [(0, .inr (some (0, 0, 0))), (1, .inl v1), (2, .inl v2), (3, .inl v3), (4, .inr (some (3, 2, j4))), (5, .inl s.1), (6, .inl s.2.1)] [] ids cG s.2.2 0 0 Rt) (hX0 : ∀ e, o = .inr e → pw l (px_R 7) y_PR_ahead c_PR_ahead 7 (some .int) 93 [(0, .inr (some (0, 0, 0))), (1, .inl v1), (3, .inl v3), (4, .inr (some (3, 2, j4))), (5, .inl e.1)] [] ids cG e.2 0 0 Rt) : pw l (px_R 7) y_PR_ahead c_PR_ahead 7 (some .int) 62 [(0, .inr (some (0, 0, 0))), (1, .inl v1), (2, .inl v2), (3, .inl v3), (4, .inr (some (3, 2, j4))), (5, .inl v5), (6, .inl v6)] [] ids cG σ 0 0 Rt := by
  unfold PR_ahead_n62 at h
  refine pw_iload 6 (px_at td_PR_ahead 32 rfl) rfl ?_
  refine pw_iload_n 2 (px_at td_PR_ahead 33 rfl) rfl rfl ?_
  rcases px_ite h with ⟨hc5, h⟩ | ⟨hc5, h⟩
  · refine pw_icmp_ge 93 (px_at td_PR_ahead 34 rfl) (by decide) (fun _ => ?_) (fun hn => absurd hc5 hn)
    refine pw_L [(0, .inr (some (0, 0, 0))), (1, .inl v1), (3, .inl v3), (4, .inr (some (3, 2, j4))), (5, .inl v5)] [0, 1, 3, 4, 5] rfl ?_
    exact hX0 (v5, σ) (Option.some.inj h).symm
  · refine pw_icmp_ge 93 (px_at td_PR_ahead 34 rfl) (by decide) (fun hn => absurd hn hc5) (fun _ => ?_)
    refine pw_aload_n 0 (px_at td_PR_ahead 35 rfl) rfl rfl ?_
    refine pw_getf (v := .inr (some (2, 2, 0))) (px_at td_PR_ahead 36 rfl) lf_PR_52 rfl rfl rfl ?_
    obtain ⟨σ4, hk4, h⟩ := px_b1_e h
    refine pw_cV0 (2, 2, 0) [] [] (px_at td_PR_ahead 37 rfl) lV_PR_98 rfl rfl rfl (Nat.le_of_ble_eq_true rfl) (by decide) (k_Bo_pass hk4) ?_
    refine pw_iload 5 (px_at td_PR_ahead 38 rfl) rfl ?_
    refine pw_aload 4 (px_at td_PR_ahead 39 rfl) rfl ?_
    refine pw_getf (v := .inl (σ4 (3, 2, j4) 5)) (px_at td_PR_ahead 40 rfl) lf_PR_153 rfl rfl rfl ?_
    refine pw_mmax (px_at td_PR_ahead 41 rfl) lm_PR_277 ws_Math_max wi_java_lang_Math wc_Math_max (by decide) (Nat.le_of_ble_eq_true rfl) (Nat.le_refl 0) (Nat.le_refl 0) ?_
    refine pw_istore (L' := [(5, .inl (if v5 < (σ4 (3, 2, j4) 5) then (σ4 (3, 2, j4) 5) else v5)), (0, .inr (some (0, 0, 0))), (1, .inl v1), (2, .inl v2), (3, .inl v3), (4, .inr (some (3, 2, j4))), (6, .inl v6)]) (px_at td_PR_ahead 42 rfl) (by decide) rfl ?_
    refine pw_iinc (q := 6) (v := (v6 + 1)) (L' := [(6, .inl (v6 + 1)), (5, .inl (if v5 < (σ4 (3, 2, j4) 5) then (σ4 (3, 2, j4) 5) else v5)), (0, .inr (some (0, 0, 0))), (1, .inl v1), (2, .inl v2), (3, .inl v3), (4, .inr (some (3, 2, j4)))]) (px_at td_PR_ahead 43 rfl) rfl rfl (by decide) rfl ?_
    refine pw_goto 62 (px_at td_PR_ahead 44 rfl) (by decide) ?_
    refine pw_L [(0, .inr (some (0, 0, 0))), (1, .inl v1), (2, .inl v2), (3, .inl v3), (4, .inr (some (3, 2, j4))), (5, .inl (if v5 < (σ4 (3, 2, j4) 5) then (σ4 (3, 2, j4) 5) else v5)), (6, .inl (v6 + 1))] [2, 3, 4, 5, 6, 1, 0] rfl ?_
    exact hC ((if v5 < (σ4 (3, 2, j4) 5) then (σ4 (3, 2, j4) 5) else v5), (v6 + 1), σ4) (Option.some.inj h).symm
def PR_ahead_L62 (v1 : Int32) (v2 : Int32) (v3 : Int32) (j4 : Nat) : (Int32 × Int32 × pxS) → Option ((Int32 × Int32 × pxS) ⊕ (Int32 × pxS)) := fun s => PR_ahead_n62 s.2.2 v1 v2 v3 j4 s.1 s.2.1
set_option maxRecDepth 100000 in
theorem PR_ahead_L62_l {l : Launch} {ids : List pxI} {Rt : Option pxV → List pxI → pxG → pxS → Prop} {v1 : Int32} {v2 : Int32} {v3 : Int32} {j4 : Nat} {n : Nat} {s : Int32 × Int32 × pxS} {e : Int32 × pxS} (h : px_it (PR_ahead_L62 v1 v2 v3 j4) n s = some e) (hX0 : pw l (px_R 7) y_PR_ahead c_PR_ahead 7 (some .int) 93 [(0, .inr (some (0, 0, 0))), (1, .inl v1), (3, .inl v3), (4, .inr (some (3, 2, j4))), (5, .inl e.1)] [] ids cG e.2 0 0 Rt) : pw l (px_R 7) y_PR_ahead c_PR_ahead 7 (some .int) 62 [(0, .inr (some (0, 0, 0))), (1, .inl v1), (2, .inl v2), (3, .inl v3), (4, .inr (some (3, 2, j4))), (5, .inl s.1), (6, .inl s.2.1)] [] ids cG s.2.2 0 0 Rt := by
  refine px_it_rule (f := PR_ahead_L62 v1 v2 v3 j4) (C := fun s => pw l (px_R 7) y_PR_ahead c_PR_ahead 7 (some .int) 62 [(0, .inr (some (0, 0, 0))), (1, .inl v1), (2, .inl v2), (3, .inl v3), (4, .inr (some (3, 2, j4))), (5, .inl s.1), (6, .inl s.2.1)] [] ids cG s.2.2 0 0 Rt) (X := fun e => (pw l (px_R 7) y_PR_ahead c_PR_ahead 7 (some .int) 93 [(0, .inr (some (0, 0, 0))), (1, .inl v1), (3, .inl v3), (4, .inr (some (3, 2, j4))), (5, .inl e.1)] [] ids cG e.2 0 0 Rt)) ?_ ?_ n s e h hX0
  · intro s s1 hf hC
    exact PR_ahead_n62_l hf (fun s2 hs => by cases hs; exact hC) (fun e he => by cases he)
  · intro s e hf hX
    exact PR_ahead_n62_l hf (fun s2 hs => by cases hs) (fun e1 he => by cases he; exact hX)
def F_PR_ahead (σ : pxS) (v1 : Int32) (v2 : Int32) (v3 : Int32) : Option (Int32 × pxS) :=
  px_b1 (F_PR_isRail σ v1) fun r1 =>
  (if r1 = 0 then PR_ahead_n28 σ  else (if v2 < 0 then PR_ahead_n28 σ  else (if 300 < v2 then PR_ahead_n28 σ  else (if v3 < 0 then PR_ahead_n28 σ  else (if v3 ≤ 3 then px_b1 (F_Bo_copyFrom σ 2 1) fun σ2 =>
  px_gd v1 12 (px_b1 (px_it (PR_ahead_L62 v1 v2 v3 v1.toNatClampNeg) px_N ((σ2 (3, 2, v1.toNatClampNeg) 5), 0, σ2)) fun e6 =>
  (if v3 = 0 then some ((e6.2 (3, 2, v1.toNatClampNeg) 2), e6.2) else (if v3 = 1 then some ((e6.2 (3, 2, v1.toNatClampNeg) 3), e6.2) else (if v3 = 2 then some (e6.1, e6.2) else px_gd v1 12 (some (((e6.2 (3, 2, v1.toNatClampNeg) 9) - (e6.2 (3, 1, v1.toNatClampNeg) 9)), e6.2)))))) else PR_ahead_n28 σ )))))
set_option maxRecDepth 100000 in
theorem e_PR_ahead {l : Launch} {ids : List pxI} {Rt : Option pxV → List pxI → pxG → pxS → Prop} {σ : pxS} {v1 : Int32} {v2 : Int32} {v3 : Int32} {res : Int32 × pxS} (h : F_PR_ahead σ v1 v2 v3 = some res) (hR : Rt (some (.inl res.1)) ids cG res.2) : pw l (px_R 7) y_PR_ahead c_PR_ahead 7 (some .int) 0 [(0, .inr (some (0, 0, 0))), (1, .inl v1), (2, .inl v2), (3, .inl v3)] [] ids cG σ 0 0 Rt := by
  unfold F_PR_ahead at h
  refine pw_aload_n 0 (px_at td_PR_ahead 0 rfl) rfl rfl ?_
  refine pw_iload_n 1 (px_at td_PR_ahead 1 rfl) rfl rfl ?_
  obtain ⟨r1, hk1, h⟩ := px_b1_e h
  refine pw_cV1 (0, 0, 0) [.inl v1] [] (px_at td_PR_ahead 2 rfl) lV_PR_101 rfl rfl rfl (Nat.le_of_ble_eq_true rfl) (by decide) (k_PR_isRail hk1) ?_
  rcases px_ite h with ⟨hc13, h⟩ | ⟨hc13, h⟩
  · refine pw_if_eq 28 (px_at td_PR_ahead 3 rfl) (by decide) (fun _ => ?_) (fun hn => absurd hc13 hn)
    refine pw_L [] [] rfl ?_
    exact PR_ahead_n28_l h hR
  · refine pw_if_eq 28 (px_at td_PR_ahead 3 rfl) (by decide) (fun hn => absurd hn hc13) (fun _ => ?_)
    refine pw_iload_n 2 (px_at td_PR_ahead 4 rfl) rfl rfl ?_
    rcases px_ite h with ⟨hc12, h⟩ | ⟨hc12, h⟩
    · refine pw_if_lt 28 (px_at td_PR_ahead 5 rfl) (by decide) (fun _ => ?_) (fun hn => absurd hc12 hn)
      refine pw_L [] [] rfl ?_
      exact PR_ahead_n28_l h hR
    · refine pw_if_lt 28 (px_at td_PR_ahead 5 rfl) (by decide) (fun hn => absurd hn hc12) (fun _ => ?_)
      refine pw_iload_n 2 (px_at td_PR_ahead 6 rfl) rfl rfl ?_
      refine pw_sipush (v := 300) (px_at td_PR_ahead 7 rfl) (by decide) ?_
      rcases px_ite h with ⟨hc11, h⟩ | ⟨hc11, h⟩
      · refine pw_icmp_gt 28 (px_at td_PR_ahead 8 rfl) (by decide) (fun _ => ?_) (fun hn => absurd hc11 hn)
        refine pw_L [] [] rfl ?_
        exact PR_ahead_n28_l h hR
      · refine pw_icmp_gt 28 (px_at td_PR_ahead 8 rfl) (by decide) (fun hn => absurd hn hc11) (fun _ => ?_)
        refine pw_iload_n 3 (px_at td_PR_ahead 9 rfl) rfl rfl ?_
        rcases px_ite h with ⟨hc10, h⟩ | ⟨hc10, h⟩
        · refine pw_if_lt 28 (px_at td_PR_ahead 10 rfl) (by decide) (fun _ => ?_) (fun hn => absurd hc10 hn)
          refine pw_L [] [] rfl ?_
          exact PR_ahead_n28_l h hR
        · refine pw_if_lt 28 (px_at td_PR_ahead 10 rfl) (by decide) (fun hn => absurd hn hc10) (fun _ => ?_)
          refine pw_iload_n 3 (px_at td_PR_ahead 11 rfl) rfl rfl ?_
          refine pw_iconst (v := 3) (px_at td_PR_ahead 12 rfl) (by decide) ?_
          rcases px_ite h with ⟨hc9, h⟩ | ⟨hc9, h⟩
          · refine pw_icmp_le 30 (px_at td_PR_ahead 13 rfl) (by decide) (fun _ => ?_) (fun hn => absurd hc9 hn)
            refine pw_aload_n 0 (px_at td_PR_ahead 16 rfl) rfl rfl ?_
            refine pw_getf (v := .inr (some (2, 2, 0))) (px_at td_PR_ahead 17 rfl) lf_PR_52 rfl rfl rfl ?_
            refine pw_aload_n 0 (px_at td_PR_ahead 18 rfl) rfl rfl ?_
            refine pw_getf (v := .inr (some (2, 1, 0))) (px_at td_PR_ahead 19 rfl) lf_PR_49 rfl rfl rfl ?_
            obtain ⟨σ2, hk2, h⟩ := px_b1_e h
            refine pw_cV0 (2, 2, 0) [.inr (some (2, 1, 0))] [] (px_at td_PR_ahead 20 rfl) lV_PR_273 rfl rfl rfl (Nat.le_of_ble_eq_true rfl) (by decide) (k_Bo_copyFrom hk2) ?_
            refine pw_aload_n 0 (px_at td_PR_ahead 21 rfl) rfl rfl ?_
            refine pw_getf (v := .inr (some (2, 2, 0))) (px_at td_PR_ahead 22 rfl) lf_PR_52 rfl rfl rfl ?_
            refine pw_getf (v := .inr (some (9, 2, 0))) (px_at td_PR_ahead 23 rfl) lf_PR_109 rfl rfl rfl ?_
            refine pw_iload_n 1 (px_at td_PR_ahead 24 rfl) rfl rfl ?_
            obtain ⟨hi3, h⟩ := px_gd_e h
            refine pw_aald (r := (3, 2, v1.toNatClampNeg)) (px_at td_PR_ahead 25 rfl) rfl (fun _ => rfl) hi3 rfl ?_
            refine pw_astore (L' := [(4, .inr (some (3, 2, v1.toNatClampNeg))), (0, .inr (some (0, 0, 0))), (1, .inl v1), (2, .inl v2), (3, .inl v3)]) (px_at td_PR_ahead 26 rfl) (by decide) rfl ?_
            refine pw_aload 0 (px_at td_PR_ahead 27 rfl) rfl ?_
            refine pw_getf (v := .inl (σ2 (3, 2, v1.toNatClampNeg) 5)) (px_at td_PR_ahead 28 rfl) lf_PR_153 rfl rfl rfl ?_
            refine pw_istore (L' := [(5, .inl (σ2 (3, 2, v1.toNatClampNeg) 5)), (4, .inr (some (3, 2, v1.toNatClampNeg))), (0, .inr (some (0, 0, 0))), (1, .inl v1), (2, .inl v2), (3, .inl v3)]) (px_at td_PR_ahead 29 rfl) (by decide) rfl ?_
            refine pw_iconst (v := 0) (px_at td_PR_ahead 30 rfl) (by decide) ?_
            refine pw_istore (L' := [(6, .inl 0), (5, .inl (σ2 (3, 2, v1.toNatClampNeg) 5)), (4, .inr (some (3, 2, v1.toNatClampNeg))), (0, .inr (some (0, 0, 0))), (1, .inl v1), (2, .inl v2), (3, .inl v3)]) (px_at td_PR_ahead 31 rfl) (by decide) rfl ?_
            obtain ⟨e6, he6, h⟩ := px_b1_e h
            refine pw_L [(0, .inr (some (0, 0, 0))), (1, .inl v1), (2, .inl v2), (3, .inl v3), (4, .inr (some (3, 2, v1.toNatClampNeg))), (5, .inl (σ2 (3, 2, v1.toNatClampNeg) 5)), (6, .inl 0)] [3, 4, 5, 6, 2, 1, 0] rfl ?_
            refine PR_ahead_L62_l he6 ?_
            refine pw_iload_n 2 (px_at td_PR_ahead 45 rfl) rfl rfl ?_
            rcases px_ite h with ⟨hs7_0, h⟩ | ⟨hs7_0, h⟩
            · refine pw_tin (off := 26) 0 120 (px_at td_PR_ahead 46 rfl) hs7_0 (by decide) (by decide) (by decide) (by decide) ?_
              refine pw_aload 3 (px_at td_PR_ahead 47 rfl) rfl ?_
              refine pw_getf (v := .inl (e6.2 (3, 2, v1.toNatClampNeg) 2)) (px_at td_PR_ahead 48 rfl) lf_PR_113 rfl rfl rfl ?_
              obtain rfl := Option.some.inj h
              exact pw_iret (px_at td_PR_ahead 49 rfl) rfl (Nat.le_refl 0) (Nat.le_refl 0) hR
            · have hd7_0 := trivial
              rcases px_ite h with ⟨hs7_1, h⟩ | ⟨hs7_1, h⟩
              · refine pw_tin (off := 32) 1 126 (px_at td_PR_ahead 46 rfl) hs7_1 (by decide) (by decide) (by decide) (by decide) ?_
                refine pw_aload 3 (px_at td_PR_ahead 50 rfl) rfl ?_
                refine pw_getf (v := .inl (e6.2 (3, 2, v1.toNatClampNeg) 3)) (px_at td_PR_ahead 51 rfl) lf_PR_150 rfl rfl rfl ?_
                obtain rfl := Option.some.inj h
                exact pw_iret (px_at td_PR_ahead 52 rfl) rfl (Nat.le_refl 0) (Nat.le_refl 0) hR
              · have hd7_1 := trivial
                rcases px_ite h with ⟨hs7_2, h⟩ | ⟨hs7_2, h⟩
                · refine pw_tin (off := 38) 2 132 (px_at td_PR_ahead 46 rfl) hs7_2 (by decide) (by decide) (by decide) (by decide) ?_
                  refine pw_iload 4 (px_at td_PR_ahead 53 rfl) rfl ?_
                  obtain rfl := Option.some.inj h
                  exact pw_iret (px_at td_PR_ahead 54 rfl) rfl (Nat.le_refl 0) (Nat.le_refl 0) hR
                · have hd7_2 := trivial
                  refine pw_tout 135 (px_at td_PR_ahead 46 rfl) (px_out [0, 1, 2] (by decide) (by simp only [List.forall_mem_cons]; exact ⟨hs7_0, hs7_1, hs7_2, fun _ hm => absurd hm List.not_mem_nil⟩)) (by decide) ?_
                  refine pw_aload 3 (px_at td_PR_ahead 55 rfl) rfl ?_
                  refine pw_getf (v := .inl (e6.2 (3, 2, v1.toNatClampNeg) 9)) (px_at td_PR_ahead 56 rfl) lf_PR_165 rfl rfl rfl ?_
                  refine pw_aload_n 0 (px_at td_PR_ahead 57 rfl) rfl rfl ?_
                  refine pw_getf (v := .inr (some (2, 1, 0))) (px_at td_PR_ahead 58 rfl) lf_PR_49 rfl rfl rfl ?_
                  refine pw_getf (v := .inr (some (9, 1, 0))) (px_at td_PR_ahead 59 rfl) lf_PR_109 rfl rfl rfl ?_
                  refine pw_iload_n 1 (px_at td_PR_ahead 60 rfl) rfl rfl ?_
                  obtain ⟨hi8, h⟩ := px_gd_e h
                  refine pw_aald (r := (3, 1, v1.toNatClampNeg)) (px_at td_PR_ahead 61 rfl) rfl (fun _ => rfl) hi8 rfl ?_
                  refine pw_getf (v := .inl (e6.2 (3, 1, v1.toNatClampNeg) 9)) (px_at td_PR_ahead 62 rfl) lf_PR_165 rfl rfl rfl ?_
                  refine pw_isub (px_at td_PR_ahead 63 rfl) ?_
                  obtain rfl := Option.some.inj h
                  exact pw_iret (px_at td_PR_ahead 64 rfl) rfl (Nat.le_refl 0) (Nat.le_refl 0) hR
          · refine pw_icmp_le 30 (px_at td_PR_ahead 13 rfl) (by decide) (fun hn => absurd hn hc9) (fun _ => ?_)
            refine pw_L [] [] rfl ?_
            exact PR_ahead_n28_l h hR
theorem k_PR_ahead {l : Launch} {ids : List pxI} {σ : pxS} {v1 : Int32} {v2 : Int32} {v3 : Int32} {res : Int32 × pxS} (h : F_PR_ahead σ v1 v2 v3 = some res) : pm l y_PR_ahead c_PR_ahead 7 (some .int) (px_R 7) [.inr (some (0, 0, 0)), .inl v1, .inl v2, .inl v3] ids cG σ (px_r (some (.inl res.1)) ids cG res.2) :=
  pm_ofF (by decide +kernel) (Nat.le_of_ble_eq_true rfl) (e_PR_ahead h ⟨rfl, rfl, rfl, rfl⟩)
/-! PR_peak -/
def PR_peak_n11 (σ : pxS)  : Option (Int32 × pxS) :=
  some ((-1), σ)
set_option maxRecDepth 100000 in
theorem PR_peak_n11_l {l : Launch} {ids : List pxI} {Rt : Option pxV → List pxI → pxG → pxS → Prop} {σ : pxS}  {res : Int32 × pxS} (h : PR_peak_n11 σ  = some res) (hR : Rt (some (.inl res.1)) ids cG res.2) : pw l (px_R 7) y_PR_peak c_PR_peak 4 (some .int) 11 [] [] ids cG σ 0 0 Rt := by
  unfold PR_peak_n11 at h
  refine pw_iconst (v := (-1)) (px_at td_PR_peak 5 rfl) (by decide) ?_
  obtain rfl := Option.some.inj h
  exact pw_iret (px_at td_PR_peak 6 rfl) rfl (Nat.le_refl 0) (Nat.le_refl 0) hR
def PR_peak_n34 (σ : pxS) (v1 : Int32) (v2 : Int32) (v3 : Int32) : Option ((Int32 × Int32 × pxS) ⊕ (Int32 × pxS)) :=
  (if v1 ≤ v3 then some (.inr (v2, σ)) else px_b1 (F_Bo_pass σ 2) fun σ2 =>
  some (.inl ((if v2 < (σ2 (2, 2, 0) 6) then (σ2 (2, 2, 0) 6) else v2), (v3 + 1), σ2)))
set_option maxRecDepth 100000 in
theorem PR_peak_n34_l {l : Launch} {ids : List pxI} {Rt : Option pxV → List pxI → pxG → pxS → Prop} {σ : pxS} {v1 : Int32} {v2 : Int32} {v3 : Int32} {o : (Int32 × Int32 × pxS) ⊕ (Int32 × pxS)} (h : PR_peak_n34 σ v1 v2 v3 = some o) (hC : ∀ s, o = .inl s → pw l (px_R 7) y_PR_peak c_PR_peak 4 (some .int) 34 [(0, .inr (some (0, 0, 0))), (1, .inl v1), (2, .inl s.1), (3, .inl s.2.1)] [] ids cG s.2.2 0 0 Rt) (hX0 : ∀ e, o = .inr e → pw l (px_R 7) y_PR_peak c_PR_peak 4 (some .int) 64 [(2, .inl e.1)] [] ids cG e.2 0 0 Rt) : pw l (px_R 7) y_PR_peak c_PR_peak 4 (some .int) 34 [(0, .inr (some (0, 0, 0))), (1, .inl v1), (2, .inl v2), (3, .inl v3)] [] ids cG σ 0 0 Rt := by
  unfold PR_peak_n34 at h
  refine pw_iload_n 3 (px_at td_PR_peak 18 rfl) rfl rfl ?_
  refine pw_iload_n 1 (px_at td_PR_peak 19 rfl) rfl rfl ?_
  rcases px_ite h with ⟨hc3, h⟩ | ⟨hc3, h⟩
  · refine pw_icmp_ge 64 (px_at td_PR_peak 20 rfl) (by decide) (fun _ => ?_) (fun hn => absurd hc3 hn)
    refine pw_L [(2, .inl v2)] [2] rfl ?_
    exact hX0 (v2, σ) (Option.some.inj h).symm
  · refine pw_icmp_ge 64 (px_at td_PR_peak 20 rfl) (by decide) (fun hn => absurd hn hc3) (fun _ => ?_)
    refine pw_aload_n 0 (px_at td_PR_peak 21 rfl) rfl rfl ?_
    refine pw_getf (v := .inr (some (2, 2, 0))) (px_at td_PR_peak 22 rfl) lf_PR_52 rfl rfl rfl ?_
    obtain ⟨σ2, hk2, h⟩ := px_b1_e h
    refine pw_cV0 (2, 2, 0) [] [] (px_at td_PR_peak 23 rfl) lV_PR_98 rfl rfl rfl (Nat.le_of_ble_eq_true rfl) (by decide) (k_Bo_pass hk2) ?_
    refine pw_iload_n 2 (px_at td_PR_peak 24 rfl) rfl rfl ?_
    refine pw_aload_n 0 (px_at td_PR_peak 25 rfl) rfl rfl ?_
    refine pw_getf (v := .inr (some (2, 2, 0))) (px_at td_PR_peak 26 rfl) lf_PR_52 rfl rfl rfl ?_
    refine pw_getf (v := .inl (σ2 (2, 2, 0) 6)) (px_at td_PR_peak 27 rfl) lf_PR_245 rfl rfl rfl ?_
    refine pw_mmax (px_at td_PR_peak 28 rfl) lm_PR_277 ws_Math_max wi_java_lang_Math wc_Math_max (by decide) (Nat.le_of_ble_eq_true rfl) (Nat.le_refl 0) (Nat.le_refl 0) ?_
    refine pw_istore_n (L' := [(2, .inl (if v2 < (σ2 (2, 2, 0) 6) then (σ2 (2, 2, 0) 6) else v2)), (0, .inr (some (0, 0, 0))), (1, .inl v1), (3, .inl v3)]) (px_at td_PR_peak 29 rfl) rfl (by decide) rfl ?_
    refine pw_iinc (q := 3) (v := (v3 + 1)) (L' := [(3, .inl (v3 + 1)), (2, .inl (if v2 < (σ2 (2, 2, 0) 6) then (σ2 (2, 2, 0) 6) else v2)), (0, .inr (some (0, 0, 0))), (1, .inl v1)]) (px_at td_PR_peak 30 rfl) rfl rfl (by decide) rfl ?_
    refine pw_goto 34 (px_at td_PR_peak 31 rfl) (by decide) ?_
    refine pw_L [(0, .inr (some (0, 0, 0))), (1, .inl v1), (2, .inl (if v2 < (σ2 (2, 2, 0) 6) then (σ2 (2, 2, 0) 6) else v2)), (3, .inl (v3 + 1))] [2, 3, 1, 0] rfl ?_
    exact hC ((if v2 < (σ2 (2, 2, 0) 6) then (σ2 (2, 2, 0) 6) else v2), (v3 + 1), σ2) (Option.some.inj h).symm
def PR_peak_L34 (v1 : Int32) : (Int32 × Int32 × pxS) → Option ((Int32 × Int32 × pxS) ⊕ (Int32 × pxS)) := fun s => PR_peak_n34 s.2.2 v1 s.1 s.2.1
set_option maxRecDepth 100000 in
theorem PR_peak_L34_l {l : Launch} {ids : List pxI} {Rt : Option pxV → List pxI → pxG → pxS → Prop} {v1 : Int32} {n : Nat} {s : Int32 × Int32 × pxS} {e : Int32 × pxS} (h : px_it (PR_peak_L34 v1) n s = some e) (hX0 : pw l (px_R 7) y_PR_peak c_PR_peak 4 (some .int) 64 [(2, .inl e.1)] [] ids cG e.2 0 0 Rt) : pw l (px_R 7) y_PR_peak c_PR_peak 4 (some .int) 34 [(0, .inr (some (0, 0, 0))), (1, .inl v1), (2, .inl s.1), (3, .inl s.2.1)] [] ids cG s.2.2 0 0 Rt := by
  refine px_it_rule (f := PR_peak_L34 v1) (C := fun s => pw l (px_R 7) y_PR_peak c_PR_peak 4 (some .int) 34 [(0, .inr (some (0, 0, 0))), (1, .inl v1), (2, .inl s.1), (3, .inl s.2.1)] [] ids cG s.2.2 0 0 Rt) (X := fun e => (pw l (px_R 7) y_PR_peak c_PR_peak 4 (some .int) 64 [(2, .inl e.1)] [] ids cG e.2 0 0 Rt)) ?_ ?_ n s e h hX0
  · intro s s1 hf hC
    exact PR_peak_n34_l hf (fun s2 hs => by cases hs; exact hC) (fun e he => by cases he)
  · intro s e hf hX
    exact PR_peak_n34_l hf (fun s2 hs => by cases hs) (fun e1 he => by cases he; exact hX)
def F_PR_peak (σ : pxS) (v1 : Int32) : Option (Int32 × pxS) :=
  (if v1 < 0 then PR_peak_n11 σ  else (if v1 ≤ 300 then px_b1 (F_Bo_copyFrom σ 2 1) fun σ1 =>
  px_b1 (px_it (PR_peak_L34 v1) px_N ((σ1 (2, 2, 0) 6), 0, σ1)) fun e4 =>
  some (e4.1, e4.2) else PR_peak_n11 σ ))
set_option maxRecDepth 100000 in
theorem e_PR_peak {l : Launch} {ids : List pxI} {Rt : Option pxV → List pxI → pxG → pxS → Prop} {σ : pxS} {v1 : Int32} {res : Int32 × pxS} (h : F_PR_peak σ v1 = some res) (hR : Rt (some (.inl res.1)) ids cG res.2) : pw l (px_R 7) y_PR_peak c_PR_peak 4 (some .int) 0 [(0, .inr (some (0, 0, 0))), (1, .inl v1)] [] ids cG σ 0 0 Rt := by
  unfold F_PR_peak at h
  refine pw_iload_n 1 (px_at td_PR_peak 0 rfl) rfl rfl ?_
  rcases px_ite h with ⟨hc6, h⟩ | ⟨hc6, h⟩
  · refine pw_if_lt 11 (px_at td_PR_peak 1 rfl) (by decide) (fun _ => ?_) (fun hn => absurd hc6 hn)
    refine pw_L [] [] rfl ?_
    exact PR_peak_n11_l h hR
  · refine pw_if_lt 11 (px_at td_PR_peak 1 rfl) (by decide) (fun hn => absurd hn hc6) (fun _ => ?_)
    refine pw_iload_n 1 (px_at td_PR_peak 2 rfl) rfl rfl ?_
    refine pw_sipush (v := 300) (px_at td_PR_peak 3 rfl) (by decide) ?_
    rcases px_ite h with ⟨hc5, h⟩ | ⟨hc5, h⟩
    · refine pw_icmp_le 13 (px_at td_PR_peak 4 rfl) (by decide) (fun _ => ?_) (fun hn => absurd hc5 hn)
      refine pw_aload_n 0 (px_at td_PR_peak 7 rfl) rfl rfl ?_
      refine pw_getf (v := .inr (some (2, 2, 0))) (px_at td_PR_peak 8 rfl) lf_PR_52 rfl rfl rfl ?_
      refine pw_aload_n 0 (px_at td_PR_peak 9 rfl) rfl rfl ?_
      refine pw_getf (v := .inr (some (2, 1, 0))) (px_at td_PR_peak 10 rfl) lf_PR_49 rfl rfl rfl ?_
      obtain ⟨σ1, hk1, h⟩ := px_b1_e h
      refine pw_cV0 (2, 2, 0) [.inr (some (2, 1, 0))] [] (px_at td_PR_peak 11 rfl) lV_PR_273 rfl rfl rfl (Nat.le_of_ble_eq_true rfl) (by decide) (k_Bo_copyFrom hk1) ?_
      refine pw_aload_n 0 (px_at td_PR_peak 12 rfl) rfl rfl ?_
      refine pw_getf (v := .inr (some (2, 2, 0))) (px_at td_PR_peak 13 rfl) lf_PR_52 rfl rfl rfl ?_
      refine pw_getf (v := .inl (σ1 (2, 2, 0) 6)) (px_at td_PR_peak 14 rfl) lf_PR_245 rfl rfl rfl ?_
      refine pw_istore_n (L' := [(2, .inl (σ1 (2, 2, 0) 6)), (0, .inr (some (0, 0, 0))), (1, .inl v1)]) (px_at td_PR_peak 15 rfl) rfl (by decide) rfl ?_
      refine pw_iconst (v := 0) (px_at td_PR_peak 16 rfl) (by decide) ?_
      refine pw_istore_n (L' := [(3, .inl 0), (2, .inl (σ1 (2, 2, 0) 6)), (0, .inr (some (0, 0, 0))), (1, .inl v1)]) (px_at td_PR_peak 17 rfl) rfl (by decide) rfl ?_
      obtain ⟨e4, he4, h⟩ := px_b1_e h
      refine pw_L [(0, .inr (some (0, 0, 0))), (1, .inl v1), (2, .inl (σ1 (2, 2, 0) 6)), (3, .inl 0)] [2, 3, 1, 0] rfl ?_
      refine PR_peak_L34_l he4 ?_
      refine pw_iload_n 0 (px_at td_PR_peak 32 rfl) rfl rfl ?_
      obtain rfl := Option.some.inj h
      exact pw_iret (px_at td_PR_peak 33 rfl) rfl (Nat.le_refl 0) (Nat.le_refl 0) hR
    · refine pw_icmp_le 13 (px_at td_PR_peak 4 rfl) (by decide) (fun hn => absurd hn hc5) (fun _ => ?_)
      refine pw_L [] [] rfl ?_
      exact PR_peak_n11_l h hR
theorem k_PR_peak {l : Launch} {ids : List pxI} {σ : pxS} {v1 : Int32} {res : Int32 × pxS} (h : F_PR_peak σ v1 = some res) : pm l y_PR_peak c_PR_peak 4 (some .int) (px_R 7) [.inr (some (0, 0, 0)), .inl v1] ids cG σ (px_r (some (.inl res.1)) ids cG res.2) :=
  pm_ofF (by decide +kernel) (Nat.le_of_ble_eq_true rfl) (e_PR_peak h ⟨rfl, rfl, rfl, rfl⟩)
/-! PR_quiet -/
def PR_quiet_n13 (σ : pxS) (v1 : Int32) : Option ((Int32 × pxS) ⊕ (Nat × Int32 × pxS)) :=
  (if 300 ≤ v1 then some (.inr (1, 0, σ)) else px_b1 (F_Bo_isQuiet σ 2) fun r2 =>
  (if r2 = 0 then px_b1 (F_Bo_pass σ 2) fun σ3 =>
  some (.inl ((v1 + 1), σ3)) else some (.inr (0, v1, σ))))
set_option maxRecDepth 100000 in
theorem PR_quiet_n13_l {l : Launch} {ids : List pxI} {Rt : Option pxV → List pxI → pxG → pxS → Prop} {σ : pxS} {v1 : Int32} {o : (Int32 × pxS) ⊕ (Nat × Int32 × pxS)} (h : PR_quiet_n13 σ v1 = some o) (hC : ∀ s, o = .inl s → pw l (px_R 7) y_PR_quiet c_PR_quiet 2 (some .int) 13 [(0, .inr (some (0, 0, 0))), (1, .inl s.1)] [] ids cG s.2 0 0 Rt) (hX0 : ∀ e, o = .inr e → e.1 = 0 → pw l (px_R 7) y_PR_quiet c_PR_quiet 2 (some .int) 30 [(1, .inl e.2.1)] [] ids cG e.2.2 0 0 Rt) (hX1 : ∀ e, o = .inr e → e.1 = 1 → pw l (px_R 7) y_PR_quiet c_PR_quiet 2 (some .int) 45 [(0, .inr (some (0, 0, 0)))] [] ids cG e.2.2 0 0 Rt) : pw l (px_R 7) y_PR_quiet c_PR_quiet 2 (some .int) 13 [(0, .inr (some (0, 0, 0))), (1, .inl v1)] [] ids cG σ 0 0 Rt := by
  unfold PR_quiet_n13 at h
  refine pw_iload_n 1 (px_at td_PR_quiet 7 rfl) rfl rfl ?_
  refine pw_sipush (v := 300) (px_at td_PR_quiet 8 rfl) (by decide) ?_
  rcases px_ite h with ⟨hc5, h⟩ | ⟨hc5, h⟩
  · refine pw_icmp_ge 45 (px_at td_PR_quiet 9 rfl) (by decide) (fun _ => ?_) (fun hn => absurd hc5 hn)
    refine pw_L [(0, .inr (some (0, 0, 0)))] [0] rfl ?_
    exact hX1 (1, 0, σ) (Option.some.inj h).symm rfl
  · refine pw_icmp_ge 45 (px_at td_PR_quiet 9 rfl) (by decide) (fun hn => absurd hn hc5) (fun _ => ?_)
    refine pw_aload_n 0 (px_at td_PR_quiet 10 rfl) rfl rfl ?_
    refine pw_getf (v := .inr (some (2, 2, 0))) (px_at td_PR_quiet 11 rfl) lf_PR_52 rfl rfl rfl ?_
    obtain ⟨r2, hk2, h⟩ := px_b1_e h
    refine pw_cV1 (2, 2, 0) [] [] (px_at td_PR_quiet 12 rfl) lV_PR_282 rfl rfl rfl (Nat.le_of_ble_eq_true rfl) (by decide) (k_Bo_isQuiet hk2) ?_
    rcases px_ite h with ⟨hc4, h⟩ | ⟨hc4, h⟩
    · refine pw_if_eq 32 (px_at td_PR_quiet 13 rfl) (by decide) (fun _ => ?_) (fun hn => absurd hc4 hn)
      refine pw_aload_n 0 (px_at td_PR_quiet 16 rfl) rfl rfl ?_
      refine pw_getf (v := .inr (some (2, 2, 0))) (px_at td_PR_quiet 17 rfl) lf_PR_52 rfl rfl rfl ?_
      obtain ⟨σ3, hk3, h⟩ := px_b1_e h
      refine pw_cV0 (2, 2, 0) [] [] (px_at td_PR_quiet 18 rfl) lV_PR_98 rfl rfl rfl (Nat.le_of_ble_eq_true rfl) (by decide) (k_Bo_pass hk3) ?_
      refine pw_iinc (q := 1) (v := (v1 + 1)) (L' := [(1, .inl (v1 + 1)), (0, .inr (some (0, 0, 0)))]) (px_at td_PR_quiet 19 rfl) rfl rfl (by decide) rfl ?_
      refine pw_goto 13 (px_at td_PR_quiet 20 rfl) (by decide) ?_
      refine pw_L [(0, .inr (some (0, 0, 0))), (1, .inl (v1 + 1))] [1, 0] rfl ?_
      exact hC ((v1 + 1), σ3) (Option.some.inj h).symm
    · refine pw_if_eq 32 (px_at td_PR_quiet 13 rfl) (by decide) (fun hn => absurd hn hc4) (fun _ => ?_)
      refine pw_L [(1, .inl v1)] [1] rfl ?_
      exact hX0 (0, v1, σ) (Option.some.inj h).symm rfl
def PR_quiet_L13  : (Int32 × pxS) → Option ((Int32 × pxS) ⊕ (Nat × Int32 × pxS)) := fun s => PR_quiet_n13 s.2 s.1
set_option maxRecDepth 100000 in
theorem PR_quiet_L13_l {l : Launch} {ids : List pxI} {Rt : Option pxV → List pxI → pxG → pxS → Prop}  {n : Nat} {s : Int32 × pxS} {e : Nat × Int32 × pxS} (h : px_it (PR_quiet_L13 ) n s = some e) (hX0 : e.1 = 0 → pw l (px_R 7) y_PR_quiet c_PR_quiet 2 (some .int) 30 [(1, .inl e.2.1)] [] ids cG e.2.2 0 0 Rt) (hX1 : e.1 = 1 → pw l (px_R 7) y_PR_quiet c_PR_quiet 2 (some .int) 45 [(0, .inr (some (0, 0, 0)))] [] ids cG e.2.2 0 0 Rt) : pw l (px_R 7) y_PR_quiet c_PR_quiet 2 (some .int) 13 [(0, .inr (some (0, 0, 0))), (1, .inl s.1)] [] ids cG s.2 0 0 Rt := by
  refine px_it_rule (f := PR_quiet_L13 ) (C := fun s => pw l (px_R 7) y_PR_quiet c_PR_quiet 2 (some .int) 13 [(0, .inr (some (0, 0, 0))), (1, .inl s.1)] [] ids cG s.2 0 0 Rt) (X := fun e => (e.1 = 0 → pw l (px_R 7) y_PR_quiet c_PR_quiet 2 (some .int) 30 [(1, .inl e.2.1)] [] ids cG e.2.2 0 0 Rt) ∧ (e.1 = 1 → pw l (px_R 7) y_PR_quiet c_PR_quiet 2 (some .int) 45 [(0, .inr (some (0, 0, 0)))] [] ids cG e.2.2 0 0 Rt)) ?_ ?_ n s e h ⟨hX0, hX1⟩
  · intro s s1 hf hC
    exact PR_quiet_n13_l hf (fun s2 hs => by cases hs; exact hC) (fun e he ht => by cases he) (fun e he ht => by cases he)
  · intro s e hf hX
    exact PR_quiet_n13_l hf (fun s2 hs => by cases hs) (fun e1 he ht => by cases he; exact hX.1 ht) (fun e1 he ht => by cases he; exact hX.2 ht)
def F_PR_quiet (σ : pxS)  : Option (Int32 × pxS) :=
  px_b1 (F_Bo_copyFrom σ 2 1) fun σ1 =>
  px_b1 (px_it (PR_quiet_L13 ) px_N (0, σ1)) fun e6 =>
  (if e6.1 = 0 then some (e6.2.1, e6.2.2) else px_b1 (F_Bo_isQuiet e6.2.2 2) fun r7 =>
  (if r7 = 0 then some ((-2), e6.2.2) else some (300, e6.2.2)))
set_option maxRecDepth 100000 in
theorem e_PR_quiet {l : Launch} {ids : List pxI} {Rt : Option pxV → List pxI → pxG → pxS → Prop} {σ : pxS}  {res : Int32 × pxS} (h : F_PR_quiet σ  = some res) (hR : Rt (some (.inl res.1)) ids cG res.2) : pw l (px_R 7) y_PR_quiet c_PR_quiet 2 (some .int) 0 [(0, .inr (some (0, 0, 0)))] [] ids cG σ 0 0 Rt := by
  unfold F_PR_quiet at h
  refine pw_aload_n 0 (px_at td_PR_quiet 0 rfl) rfl rfl ?_
  refine pw_getf (v := .inr (some (2, 2, 0))) (px_at td_PR_quiet 1 rfl) lf_PR_52 rfl rfl rfl ?_
  refine pw_aload_n 0 (px_at td_PR_quiet 2 rfl) rfl rfl ?_
  refine pw_getf (v := .inr (some (2, 1, 0))) (px_at td_PR_quiet 3 rfl) lf_PR_49 rfl rfl rfl ?_
  obtain ⟨σ1, hk1, h⟩ := px_b1_e h
  refine pw_cV0 (2, 2, 0) [.inr (some (2, 1, 0))] [] (px_at td_PR_quiet 4 rfl) lV_PR_273 rfl rfl rfl (Nat.le_of_ble_eq_true rfl) (by decide) (k_Bo_copyFrom hk1) ?_
  refine pw_iconst (v := 0) (px_at td_PR_quiet 5 rfl) (by decide) ?_
  refine pw_istore_n (L' := [(1, .inl 0), (0, .inr (some (0, 0, 0)))]) (px_at td_PR_quiet 6 rfl) rfl (by decide) rfl ?_
  obtain ⟨e6, he6, h⟩ := px_b1_e h
  refine pw_L [(0, .inr (some (0, 0, 0))), (1, .inl 0)] [1, 0] rfl ?_
  refine PR_quiet_L13_l he6 (fun ht0 => ?_) (fun ht1 => ?_)
  · rw [if_pos ht0] at h
    refine pw_iload_n 0 (px_at td_PR_quiet 14 rfl) rfl rfl ?_
    obtain rfl := Option.some.inj h
    exact pw_iret (px_at td_PR_quiet 15 rfl) rfl (Nat.le_refl 0) (Nat.le_refl 0) hR
  · rw [if_neg (by rw [ht1]; decide)] at h
    refine pw_aload_n 0 (px_at td_PR_quiet 21 rfl) rfl rfl ?_
    refine pw_getf (v := .inr (some (2, 2, 0))) (px_at td_PR_quiet 22 rfl) lf_PR_52 rfl rfl rfl ?_
    obtain ⟨r7, hk7, h⟩ := px_b1_e h
    refine pw_cV1 (2, 2, 0) [] [] (px_at td_PR_quiet 23 rfl) lV_PR_282 rfl rfl rfl (Nat.le_of_ble_eq_true rfl) (by decide) (k_Bo_isQuiet hk7) ?_
    rcases px_ite h with ⟨hc8, h⟩ | ⟨hc8, h⟩
    · refine pw_if_eq 61 (px_at td_PR_quiet 24 rfl) (by decide) (fun _ => ?_) (fun hn => absurd hc8 hn)
      refine pw_bipush (v := (-2)) (px_at td_PR_quiet 27 rfl) (by decide) ?_
      obtain rfl := Option.some.inj h
      exact pw_iret (px_at td_PR_quiet 28 rfl) rfl (Nat.le_refl 0) (Nat.le_refl 0) hR
    · refine pw_if_eq 61 (px_at td_PR_quiet 24 rfl) (by decide) (fun hn => absurd hn hc8) (fun _ => ?_)
      refine pw_sipush (v := 300) (px_at td_PR_quiet 25 rfl) (by decide) ?_
      refine pw_goto 63 (px_at td_PR_quiet 26 rfl) (by decide) ?_
      obtain rfl := Option.some.inj h
      exact pw_iret (px_at td_PR_quiet 28 rfl) rfl (Nat.le_refl 0) (Nat.le_refl 0) hR
theorem k_PR_quiet {l : Launch} {ids : List pxI} {σ : pxS}  {res : Int32 × pxS} (h : F_PR_quiet σ  = some res) : pm l y_PR_quiet c_PR_quiet 2 (some .int) (px_R 7) [.inr (some (0, 0, 0))] ids cG σ (px_r (some (.inl res.1)) ids cG res.2) :=
  pm_ofF (by decide +kernel) (Nat.le_of_ble_eq_true rfl) (e_PR_quiet h ⟨rfl, rfl, rfl, rfl⟩)
/-! PR_leastLimit -/
def PR_leastLimit_n43 (σ : pxS) (j2 : Nat) (v3 : Int32) (v4 : Int32) : Option ((Int32 × Int32 × pxS) ⊕ (Int32 × pxS)) :=
  (if 100 ≤ v4 then some (.inr (v3, σ)) else px_b1 (F_Bo_pass σ 2) fun σ5 =>
  some (.inl ((if v3 < (σ5 (3, 2, j2) 5) then (σ5 (3, 2, j2) 5) else v3), (v4 + 1), σ5)))
set_option maxRecDepth 100000 in
theorem PR_leastLimit_n43_l {l : Launch} {ids : List pxI} {Rt : Option pxV → List pxI → pxG → pxS → Prop} {σ : pxS} {j2 : Nat} {v3 : Int32} {v4 : Int32} {o : (Int32 × Int32 × pxS) ⊕ (Int32 × pxS)} (h : PR_leastLimit_n43 σ j2 v3 v4 = some o) (hC : ∀ s, o = .inl s → pw l (px_R 7) y_PR_leastLimit c_PR_leastLimit 5 (some .int) 43 [(0, .inr (some (0, 0, 0))), (2, .inr (some (3, 2, j2))), (3, .inl s.1), (4, .inl s.2.1)] [] ids cG s.2.2 0 0 Rt) (hX0 : ∀ e, o = .inr e → pw l (px_R 7) y_PR_leastLimit c_PR_leastLimit 5 (some .int) 72 [(3, .inl e.1)] [] ids cG e.2 0 0 Rt) : pw l (px_R 7) y_PR_leastLimit c_PR_leastLimit 5 (some .int) 43 [(0, .inr (some (0, 0, 0))), (2, .inr (some (3, 2, j2))), (3, .inl v3), (4, .inl v4)] [] ids cG σ 0 0 Rt := by
  unfold PR_leastLimit_n43 at h
  refine pw_iload 3 (px_at td_PR_leastLimit 24 rfl) rfl ?_
  refine pw_bipush (v := 100) (px_at td_PR_leastLimit 25 rfl) (by decide) ?_
  rcases px_ite h with ⟨hc6, h⟩ | ⟨hc6, h⟩
  · refine pw_icmp_ge 72 (px_at td_PR_leastLimit 26 rfl) (by decide) (fun _ => ?_) (fun hn => absurd hc6 hn)
    refine pw_L [(3, .inl v3)] [2] rfl ?_
    exact hX0 (v3, σ) (Option.some.inj h).symm
  · refine pw_icmp_ge 72 (px_at td_PR_leastLimit 26 rfl) (by decide) (fun hn => absurd hn hc6) (fun _ => ?_)
    refine pw_aload_n 0 (px_at td_PR_leastLimit 27 rfl) rfl rfl ?_
    refine pw_getf (v := .inr (some (2, 2, 0))) (px_at td_PR_leastLimit 28 rfl) lf_PR_52 rfl rfl rfl ?_
    obtain ⟨σ5, hk5, h⟩ := px_b1_e h
    refine pw_cV0 (2, 2, 0) [] [] (px_at td_PR_leastLimit 29 rfl) lV_PR_98 rfl rfl rfl (Nat.le_of_ble_eq_true rfl) (by decide) (k_Bo_pass hk5) ?_
    refine pw_iload_n 2 (px_at td_PR_leastLimit 30 rfl) rfl rfl ?_
    refine pw_aload_n 1 (px_at td_PR_leastLimit 31 rfl) rfl rfl ?_
    refine pw_getf (v := .inl (σ5 (3, 2, j2) 5)) (px_at td_PR_leastLimit 32 rfl) lf_PR_153 rfl rfl rfl ?_
    refine pw_mmax (px_at td_PR_leastLimit 33 rfl) lm_PR_277 ws_Math_max wi_java_lang_Math wc_Math_max (by decide) (Nat.le_of_ble_eq_true rfl) (Nat.le_refl 0) (Nat.le_refl 0) ?_
    refine pw_istore_n (L' := [(3, .inl (if v3 < (σ5 (3, 2, j2) 5) then (σ5 (3, 2, j2) 5) else v3)), (0, .inr (some (0, 0, 0))), (2, .inr (some (3, 2, j2))), (4, .inl v4)]) (px_at td_PR_leastLimit 34 rfl) rfl (by decide) rfl ?_
    refine pw_iinc (q := 3) (v := (v4 + 1)) (L' := [(4, .inl (v4 + 1)), (3, .inl (if v3 < (σ5 (3, 2, j2) 5) then (σ5 (3, 2, j2) 5) else v3)), (0, .inr (some (0, 0, 0))), (2, .inr (some (3, 2, j2)))]) (px_at td_PR_leastLimit 35 rfl) rfl rfl (by decide) rfl ?_
    refine pw_goto 43 (px_at td_PR_leastLimit 36 rfl) (by decide) ?_
    refine pw_L [(0, .inr (some (0, 0, 0))), (2, .inr (some (3, 2, j2))), (3, .inl (if v3 < (σ5 (3, 2, j2) 5) then (σ5 (3, 2, j2) 5) else v3)), (4, .inl (v4 + 1))] [2, 3, 1, 0] rfl ?_
    exact hC ((if v3 < (σ5 (3, 2, j2) 5) then (σ5 (3, 2, j2) 5) else v3), (v4 + 1), σ5) (Option.some.inj h).symm
def PR_leastLimit_L43 (j2 : Nat) : (Int32 × Int32 × pxS) → Option ((Int32 × Int32 × pxS) ⊕ (Int32 × pxS)) := fun s => PR_leastLimit_n43 s.2.2 j2 s.1 s.2.1
set_option maxRecDepth 100000 in
theorem PR_leastLimit_L43_l {l : Launch} {ids : List pxI} {Rt : Option pxV → List pxI → pxG → pxS → Prop} {j2 : Nat} {n : Nat} {s : Int32 × Int32 × pxS} {e : Int32 × pxS} (h : px_it (PR_leastLimit_L43 j2) n s = some e) (hX0 : pw l (px_R 7) y_PR_leastLimit c_PR_leastLimit 5 (some .int) 72 [(3, .inl e.1)] [] ids cG e.2 0 0 Rt) : pw l (px_R 7) y_PR_leastLimit c_PR_leastLimit 5 (some .int) 43 [(0, .inr (some (0, 0, 0))), (2, .inr (some (3, 2, j2))), (3, .inl s.1), (4, .inl s.2.1)] [] ids cG s.2.2 0 0 Rt := by
  refine px_it_rule (f := PR_leastLimit_L43 j2) (C := fun s => pw l (px_R 7) y_PR_leastLimit c_PR_leastLimit 5 (some .int) 43 [(0, .inr (some (0, 0, 0))), (2, .inr (some (3, 2, j2))), (3, .inl s.1), (4, .inl s.2.1)] [] ids cG s.2.2 0 0 Rt) (X := fun e => (pw l (px_R 7) y_PR_leastLimit c_PR_leastLimit 5 (some .int) 72 [(3, .inl e.1)] [] ids cG e.2 0 0 Rt)) ?_ ?_ n s e h hX0
  · intro s s1 hf hC
    exact PR_leastLimit_n43_l hf (fun s2 hs => by cases hs; exact hC) (fun e he => by cases he)
  · intro s e hf hX
    exact PR_leastLimit_n43_l hf (fun s2 hs => by cases hs) (fun e1 he => by cases he; exact hX)
def F_PR_leastLimit (σ : pxS) (v1 : Int32) : Option (Int32 × pxS) :=
  px_b1 (F_PR_isRail σ v1) fun r1 =>
  (if r1 = 0 then some ((-1), σ) else px_b1 (F_Bo_copyFrom σ 2 1) fun σ2 =>
  px_gd v1 12 (px_l (px_up σ2 (3, 2, v1.toNatClampNeg) 1 2147483647) fun σ4 =>
  px_b1 (px_it (PR_leastLimit_L43 v1.toNatClampNeg) px_N (1, 0, σ4)) fun e7 =>
  (if e7.1 ≤ 99999 then some (e7.1, e7.2) else some ((-2), e7.2))))
set_option maxRecDepth 100000 in
theorem e_PR_leastLimit {l : Launch} {ids : List pxI} {Rt : Option pxV → List pxI → pxG → pxS → Prop} {σ : pxS} {v1 : Int32} {res : Int32 × pxS} (h : F_PR_leastLimit σ v1 = some res) (hR : Rt (some (.inl res.1)) ids cG res.2) : pw l (px_R 7) y_PR_leastLimit c_PR_leastLimit 5 (some .int) 0 [(0, .inr (some (0, 0, 0))), (1, .inl v1)] [] ids cG σ 0 0 Rt := by
  unfold F_PR_leastLimit at h
  refine pw_aload_n 0 (px_at td_PR_leastLimit 0 rfl) rfl rfl ?_
  refine pw_iload_n 1 (px_at td_PR_leastLimit 1 rfl) rfl rfl ?_
  obtain ⟨r1, hk1, h⟩ := px_b1_e h
  refine pw_cV1 (0, 0, 0) [.inl v1] [] (px_at td_PR_leastLimit 2 rfl) lV_PR_101 rfl rfl rfl (Nat.le_of_ble_eq_true rfl) (by decide) (k_PR_isRail hk1) ?_
  rcases px_ite h with ⟨hc9, h⟩ | ⟨hc9, h⟩
  · refine pw_if_ne 10 (px_at td_PR_leastLimit 3 rfl) (by decide) (fun hn => absurd hc9 hn) (fun _ => ?_)
    refine pw_iconst (v := (-1)) (px_at td_PR_leastLimit 4 rfl) (by decide) ?_
    obtain rfl := Option.some.inj h
    exact pw_iret (px_at td_PR_leastLimit 5 rfl) rfl (Nat.le_refl 0) (Nat.le_refl 0) hR
  · refine pw_if_ne 10 (px_at td_PR_leastLimit 3 rfl) (by decide) (fun _ => ?_) (fun hn => absurd hn hc9)
    refine pw_aload_n 0 (px_at td_PR_leastLimit 6 rfl) rfl rfl ?_
    refine pw_getf (v := .inr (some (2, 2, 0))) (px_at td_PR_leastLimit 7 rfl) lf_PR_52 rfl rfl rfl ?_
    refine pw_aload_n 0 (px_at td_PR_leastLimit 8 rfl) rfl rfl ?_
    refine pw_getf (v := .inr (some (2, 1, 0))) (px_at td_PR_leastLimit 9 rfl) lf_PR_49 rfl rfl rfl ?_
    obtain ⟨σ2, hk2, h⟩ := px_b1_e h
    refine pw_cV0 (2, 2, 0) [.inr (some (2, 1, 0))] [] (px_at td_PR_leastLimit 10 rfl) lV_PR_273 rfl rfl rfl (Nat.le_of_ble_eq_true rfl) (by decide) (k_Bo_copyFrom hk2) ?_
    refine pw_aload_n 0 (px_at td_PR_leastLimit 11 rfl) rfl rfl ?_
    refine pw_getf (v := .inr (some (2, 2, 0))) (px_at td_PR_leastLimit 12 rfl) lf_PR_52 rfl rfl rfl ?_
    refine pw_getf (v := .inr (some (9, 2, 0))) (px_at td_PR_leastLimit 13 rfl) lf_PR_109 rfl rfl rfl ?_
    refine pw_iload_n 1 (px_at td_PR_leastLimit 14 rfl) rfl rfl ?_
    obtain ⟨hi3, h⟩ := px_gd_e h
    refine pw_aald (r := (3, 2, v1.toNatClampNeg)) (px_at td_PR_leastLimit 15 rfl) rfl (fun _ => rfl) hi3 rfl ?_
    refine pw_astore_n (L' := [(2, .inr (some (3, 2, v1.toNatClampNeg))), (0, .inr (some (0, 0, 0))), (1, .inl v1)]) (px_at td_PR_leastLimit 16 rfl) rfl (by decide) rfl ?_
    refine pw_aload_n 0 (px_at td_PR_leastLimit 17 rfl) rfl rfl ?_
    refine pw_ldcw (v := 2147483647) (px_at td_PR_leastLimit 18 rfl) lc_PR_286 ?_
    obtain ⟨σ4, hσ4, h⟩ := px_l_e h
    refine pw_puti (px_at td_PR_leastLimit 19 rfl) lw_PR_131 rfl rfl (pw_s hσ4 ?_)
    refine pw_iconst (v := 1) (px_at td_PR_leastLimit 20 rfl) (by decide) ?_
    refine pw_istore_n (L' := [(3, .inl 1), (2, .inr (some (3, 2, v1.toNatClampNeg))), (0, .inr (some (0, 0, 0))), (1, .inl v1)]) (px_at td_PR_leastLimit 21 rfl) rfl (by decide) rfl ?_
    refine pw_iconst (v := 0) (px_at td_PR_leastLimit 22 rfl) (by decide) ?_
    refine pw_istore (L' := [(4, .inl 0), (3, .inl 1), (2, .inr (some (3, 2, v1.toNatClampNeg))), (0, .inr (some (0, 0, 0))), (1, .inl v1)]) (px_at td_PR_leastLimit 23 rfl) (by decide) rfl ?_
    obtain ⟨e7, he7, h⟩ := px_b1_e h
    refine pw_L [(0, .inr (some (0, 0, 0))), (2, .inr (some (3, 2, v1.toNatClampNeg))), (3, .inl 1), (4, .inl 0)] [3, 2, 1, 0] rfl ?_
    refine PR_leastLimit_L43_l he7 ?_
    refine pw_iload_n 0 (px_at td_PR_leastLimit 37 rfl) rfl rfl ?_
    refine pw_ldc (v := 99999) (px_at td_PR_leastLimit 38 rfl) lc_PR_130 ?_
    rcases px_ite h with ⟨hc8, h⟩ | ⟨hc8, h⟩
    · refine pw_icmp_le 83 (px_at td_PR_leastLimit 39 rfl) (by decide) (fun _ => ?_) (fun hn => absurd hc8 hn)
      refine pw_iload_n 0 (px_at td_PR_leastLimit 42 rfl) rfl rfl ?_
      obtain rfl := Option.some.inj h
      exact pw_iret (px_at td_PR_leastLimit 43 rfl) rfl (Nat.le_refl 0) (Nat.le_refl 0) hR
    · refine pw_icmp_le 83 (px_at td_PR_leastLimit 39 rfl) (by decide) (fun hn => absurd hn hc8) (fun _ => ?_)
      refine pw_bipush (v := (-2)) (px_at td_PR_leastLimit 40 rfl) (by decide) ?_
      refine pw_goto 84 (px_at td_PR_leastLimit 41 rfl) (by decide) ?_
      obtain rfl := Option.some.inj h
      exact pw_iret (px_at td_PR_leastLimit 43 rfl) rfl (Nat.le_refl 0) (Nat.le_refl 0) hR
theorem k_PR_leastLimit {l : Launch} {ids : List pxI} {σ : pxS} {v1 : Int32} {res : Int32 × pxS} (h : F_PR_leastLimit σ v1 = some res) : pm l y_PR_leastLimit c_PR_leastLimit 5 (some .int) (px_R 7) [.inr (some (0, 0, 0)), .inl v1] ids cG σ (px_r (some (.inl res.1)) ids cG res.2) :=
  pm_ofF (by decide +kernel) (Nat.le_of_ble_eq_true rfl) (e_PR_leastLimit h ⟨rfl, rfl, rfl, rfl⟩)
/-! PR_ifLoad -/
def PR_ifLoad_n19 (σ : pxS)  : Option (Int32 × pxS) :=
  some ((-1), σ)
set_option maxRecDepth 100000 in
theorem PR_ifLoad_n19_l {l : Launch} {ids : List pxI} {Rt : Option pxV → List pxI → pxG → pxS → Prop} {σ : pxS}  {res : Int32 × pxS} (h : PR_ifLoad_n19 σ  = some res) (hR : Rt (some (.inl res.1)) ids cG res.2) : pw l (px_R 7) y_PR_ifLoad c_PR_ifLoad 5 (some .int) 19 [] [] ids cG σ 0 0 Rt := by
  unfold PR_ifLoad_n19 at h
  refine pw_iconst (v := (-1)) (px_at td_PR_ifLoad 9 rfl) (by decide) ?_
  obtain rfl := Option.some.inj h
  exact pw_iret (px_at td_PR_ifLoad 10 rfl) rfl (Nat.le_refl 0) (Nat.le_refl 0) hR
def PR_ifLoad_n47 (σ : pxS) (v3 : Int32) : Option ((Int32 × pxS) ⊕ (pxS)) :=
  (if 100 ≤ v3 then some (.inr σ) else px_b1 (F_Bo_pass σ 2) fun σ5 =>
  some (.inl ((v3 + 1), σ5)))
set_option maxRecDepth 100000 in
theorem PR_ifLoad_n47_l {l : Launch} {ids : List pxI} {Rt : Option pxV → List pxI → pxG → pxS → Prop} {σ : pxS} {v3 : Int32} {o : (Int32 × pxS) ⊕ (pxS)} (h : PR_ifLoad_n47 σ v3 = some o) (hC : ∀ s, o = .inl s → pw l (px_R 7) y_PR_ifLoad c_PR_ifLoad 5 (some .int) 47 [(0, .inr (some (0, 0, 0))), (3, .inl s.1)] [] ids cG s.2 0 0 Rt) (hX0 : ∀ e, o = .inr e → pw l (px_R 7) y_PR_ifLoad c_PR_ifLoad 5 (some .int) 66 [(0, .inr (some (0, 0, 0)))] [] ids cG e 0 0 Rt) : pw l (px_R 7) y_PR_ifLoad c_PR_ifLoad 5 (some .int) 47 [(0, .inr (some (0, 0, 0))), (3, .inl v3)] [] ids cG σ 0 0 Rt := by
  unfold PR_ifLoad_n47 at h
  refine pw_iload_n 1 (px_at td_PR_ifLoad 25 rfl) rfl rfl ?_
  refine pw_bipush (v := 100) (px_at td_PR_ifLoad 26 rfl) (by decide) ?_
  rcases px_ite h with ⟨hc6, h⟩ | ⟨hc6, h⟩
  · refine pw_icmp_ge 66 (px_at td_PR_ifLoad 27 rfl) (by decide) (fun _ => ?_) (fun hn => absurd hc6 hn)
    refine pw_L [(0, .inr (some (0, 0, 0)))] [0] rfl ?_
    exact hX0 σ (Option.some.inj h).symm
  · refine pw_icmp_ge 66 (px_at td_PR_ifLoad 27 rfl) (by decide) (fun hn => absurd hn hc6) (fun _ => ?_)
    refine pw_aload_n 0 (px_at td_PR_ifLoad 28 rfl) rfl rfl ?_
    refine pw_getf (v := .inr (some (2, 2, 0))) (px_at td_PR_ifLoad 29 rfl) lf_PR_52 rfl rfl rfl ?_
    obtain ⟨σ5, hk5, h⟩ := px_b1_e h
    refine pw_cV0 (2, 2, 0) [] [] (px_at td_PR_ifLoad 30 rfl) lV_PR_98 rfl rfl rfl (Nat.le_of_ble_eq_true rfl) (by decide) (k_Bo_pass hk5) ?_
    refine pw_iinc (q := 1) (v := (v3 + 1)) (L' := [(3, .inl (v3 + 1)), (0, .inr (some (0, 0, 0)))]) (px_at td_PR_ifLoad 31 rfl) rfl rfl (by decide) rfl ?_
    refine pw_goto 47 (px_at td_PR_ifLoad 32 rfl) (by decide) ?_
    refine pw_L [(0, .inr (some (0, 0, 0))), (3, .inl (v3 + 1))] [1, 0] rfl ?_
    exact hC ((v3 + 1), σ5) (Option.some.inj h).symm
def PR_ifLoad_L47  : (Int32 × pxS) → Option ((Int32 × pxS) ⊕ (pxS)) := fun s => PR_ifLoad_n47 s.2 s.1
set_option maxRecDepth 100000 in
theorem PR_ifLoad_L47_l {l : Launch} {ids : List pxI} {Rt : Option pxV → List pxI → pxG → pxS → Prop}  {n : Nat} {s : Int32 × pxS} {e : pxS} (h : px_it (PR_ifLoad_L47 ) n s = some e) (hX0 : pw l (px_R 7) y_PR_ifLoad c_PR_ifLoad 5 (some .int) 66 [(0, .inr (some (0, 0, 0)))] [] ids cG e 0 0 Rt) : pw l (px_R 7) y_PR_ifLoad c_PR_ifLoad 5 (some .int) 47 [(0, .inr (some (0, 0, 0))), (3, .inl s.1)] [] ids cG s.2 0 0 Rt := by
  refine px_it_rule (f := PR_ifLoad_L47 ) (C := fun s => pw l (px_R 7) y_PR_ifLoad c_PR_ifLoad 5 (some .int) 47 [(0, .inr (some (0, 0, 0))), (3, .inl s.1)] [] ids cG s.2 0 0 Rt) (X := fun e => (pw l (px_R 7) y_PR_ifLoad c_PR_ifLoad 5 (some .int) 66 [(0, .inr (some (0, 0, 0)))] [] ids cG e 0 0 Rt)) ?_ ?_ n s e h hX0
  · intro s s1 hf hC
    exact PR_ifLoad_n47_l hf (fun s2 hs => by cases hs; exact hC) (fun e he => by cases he)
  · intro s e hf hX
    exact PR_ifLoad_n47_l hf (fun s2 hs => by cases hs) (fun e1 he => by cases he; exact hX)
def PR_ifLoad_n119 (σ : pxS) (v3 : Int32) (v4 : Int32) : Option ((Int32 × Int32) ⊕ (Int32)) :=
  some (.inl (v3, (v4 + 1)))
set_option maxRecDepth 100000 in
theorem PR_ifLoad_n119_l {l : Launch} {ids : List pxI} {Rt : Option pxV → List pxI → pxG → pxS → Prop} {σ : pxS} {v3 : Int32} {v4 : Int32} {o : (Int32 × Int32) ⊕ (Int32)} (h : PR_ifLoad_n119 σ v3 v4 = some o) (hC : ∀ s, o = .inl s → pw l (px_R 7) y_PR_ifLoad c_PR_ifLoad 5 (some .int) 71 [(0, .inr (some (0, 0, 0))), (3, .inl s.1), (4, .inl s.2)] [] ids cG σ 0 0 Rt) (hX0 : ∀ e, o = .inr e → pw l (px_R 7) y_PR_ifLoad c_PR_ifLoad 5 (some .int) 125 [(3, .inl e)] [] ids cG σ 0 0 Rt) : pw l (px_R 7) y_PR_ifLoad c_PR_ifLoad 5 (some .int) 119 [(0, .inr (some (0, 0, 0))), (3, .inl v3), (4, .inl v4)] [] ids cG σ 0 0 Rt := by
  unfold PR_ifLoad_n119 at h
  refine pw_iinc (q := 2) (v := (v4 + 1)) (L' := [(4, .inl (v4 + 1)), (0, .inr (some (0, 0, 0))), (3, .inl v3)]) (px_at td_PR_ifLoad 61 rfl) rfl rfl (by decide) rfl ?_
  refine pw_goto 71 (px_at td_PR_ifLoad 62 rfl) (by decide) ?_
  refine pw_L [(0, .inr (some (0, 0, 0))), (3, .inl v3), (4, .inl (v4 + 1))] [1, 2, 0] rfl ?_
  exact hC (v3, (v4 + 1)) (Option.some.inj h).symm
def PR_ifLoad_n71 (σ : pxS) (v3 : Int32) (v4 : Int32) : Option ((Int32 × Int32) ⊕ (Int32)) :=
  (if (σ (1, (σ (0, 0, 0) 6).toNatClampNeg, 0) 0) ≤ v4 then some (.inr v3) else px_gd v4 12 (px_gd v4 12 ((if (σ (3, 2, v4.toNatClampNeg) 9) ≤ (σ (3, 1, v4.toNatClampNeg) 9) then PR_ifLoad_n119 σ v3 v4 else PR_ifLoad_n119 σ (v3 ||| (1 <<< (v4 &&& 31))) v4))))
set_option maxRecDepth 100000 in
theorem PR_ifLoad_n71_l {l : Launch} {ids : List pxI} {Rt : Option pxV → List pxI → pxG → pxS → Prop} {σ : pxS} {v3 : Int32} {v4 : Int32} {o : (Int32 × Int32) ⊕ (Int32)} (h : PR_ifLoad_n71 σ v3 v4 = some o) (hC : ∀ s, o = .inl s → pw l (px_R 7) y_PR_ifLoad c_PR_ifLoad 5 (some .int) 71 [(0, .inr (some (0, 0, 0))), (3, .inl s.1), (4, .inl s.2)] [] ids cG σ 0 0 Rt) (hX0 : ∀ e, o = .inr e → pw l (px_R 7) y_PR_ifLoad c_PR_ifLoad 5 (some .int) 125 [(3, .inl e)] [] ids cG σ 0 0 Rt) : pw l (px_R 7) y_PR_ifLoad c_PR_ifLoad 5 (some .int) 71 [(0, .inr (some (0, 0, 0))), (3, .inl v3), (4, .inl v4)] [] ids cG σ 0 0 Rt := by
  unfold PR_ifLoad_n71 at h
  refine pw_iload 2 (px_at td_PR_ifLoad 37 rfl) rfl ?_
  refine pw_aload_n 0 (px_at td_PR_ifLoad 38 rfl) rfl rfl ?_
  refine pw_getf (v := .inr (some (1, (σ (0, 0, 0) 6).toNatClampNeg, 0))) (px_at td_PR_ifLoad 39 rfl) lf_PR_31 rfl rfl rfl ?_
  refine pw_getf (v := .inl (σ (1, (σ (0, 0, 0) 6).toNatClampNeg, 0) 0)) (px_at td_PR_ifLoad 40 rfl) lf_PR_254 rfl rfl rfl ?_
  rcases px_ite h with ⟨hc11, h⟩ | ⟨hc11, h⟩
  · refine pw_icmp_ge 125 (px_at td_PR_ifLoad 41 rfl) (by decide) (fun _ => ?_) (fun hn => absurd hc11 hn)
    refine pw_L [(3, .inl v3)] [1] rfl ?_
    exact hX0 v3 (Option.some.inj h).symm
  · refine pw_icmp_ge 125 (px_at td_PR_ifLoad 41 rfl) (by decide) (fun hn => absurd hn hc11) (fun _ => ?_)
    refine pw_aload_n 0 (px_at td_PR_ifLoad 42 rfl) rfl rfl ?_
    refine pw_getf (v := .inr (some (2, 2, 0))) (px_at td_PR_ifLoad 43 rfl) lf_PR_52 rfl rfl rfl ?_
    refine pw_getf (v := .inr (some (9, 2, 0))) (px_at td_PR_ifLoad 44 rfl) lf_PR_109 rfl rfl rfl ?_
    refine pw_iload 2 (px_at td_PR_ifLoad 45 rfl) rfl ?_
    obtain ⟨hi8, h⟩ := px_gd_e h
    refine pw_aald (r := (3, 2, v4.toNatClampNeg)) (px_at td_PR_ifLoad 46 rfl) rfl (fun _ => rfl) hi8 rfl ?_
    refine pw_getf (v := .inl (σ (3, 2, v4.toNatClampNeg) 9)) (px_at td_PR_ifLoad 47 rfl) lf_PR_165 rfl rfl rfl ?_
    refine pw_aload_n 0 (px_at td_PR_ifLoad 48 rfl) rfl rfl ?_
    refine pw_getf (v := .inr (some (2, 1, 0))) (px_at td_PR_ifLoad 49 rfl) lf_PR_49 rfl rfl rfl ?_
    refine pw_getf (v := .inr (some (9, 1, 0))) (px_at td_PR_ifLoad 50 rfl) lf_PR_109 rfl rfl rfl ?_
    refine pw_iload 2 (px_at td_PR_ifLoad 51 rfl) rfl ?_
    obtain ⟨hi9, h⟩ := px_gd_e h
    refine pw_aald (r := (3, 1, v4.toNatClampNeg)) (px_at td_PR_ifLoad 52 rfl) rfl (fun _ => rfl) hi9 rfl ?_
    refine pw_getf (v := .inl (σ (3, 1, v4.toNatClampNeg) 9)) (px_at td_PR_ifLoad 53 rfl) lf_PR_165 rfl rfl rfl ?_
    rcases px_ite h with ⟨hc10, h⟩ | ⟨hc10, h⟩
    · refine pw_icmp_le 119 (px_at td_PR_ifLoad 54 rfl) (by decide) (fun _ => ?_) (fun hn => absurd hc10 hn)
      exact PR_ifLoad_n119_l h hC hX0
    · refine pw_icmp_le 119 (px_at td_PR_ifLoad 54 rfl) (by decide) (fun hn => absurd hn hc10) (fun _ => ?_)
      refine pw_iload_n 1 (px_at td_PR_ifLoad 55 rfl) rfl rfl ?_
      refine pw_iconst (v := 1) (px_at td_PR_ifLoad 56 rfl) (by decide) ?_
      refine pw_iload 2 (px_at td_PR_ifLoad 57 rfl) rfl ?_
      refine pw_ishl (px_at td_PR_ifLoad 58 rfl) ?_
      refine pw_ior (px_at td_PR_ifLoad 59 rfl) ?_
      refine pw_istore_n (L' := [(3, .inl (v3 ||| (1 <<< (v4 &&& 31)))), (0, .inr (some (0, 0, 0))), (4, .inl v4)]) (px_at td_PR_ifLoad 60 rfl) rfl (by decide) rfl ?_
      refine pw_L [(0, .inr (some (0, 0, 0))), (3, .inl (v3 ||| (1 <<< (v4 &&& 31)))), (4, .inl v4)] [1, 0, 2] rfl ?_
      exact PR_ifLoad_n119_l h hC hX0
def PR_ifLoad_L71 (σ : pxS) : (Int32 × Int32) → Option ((Int32 × Int32) ⊕ (Int32)) := fun s => PR_ifLoad_n71 σ s.1 s.2
set_option maxRecDepth 100000 in
theorem PR_ifLoad_L71_l {l : Launch} {ids : List pxI} {Rt : Option pxV → List pxI → pxG → pxS → Prop} {σ : pxS} {n : Nat} {s : Int32 × Int32} {e : Int32} (h : px_it (PR_ifLoad_L71 σ) n s = some e) (hX0 : pw l (px_R 7) y_PR_ifLoad c_PR_ifLoad 5 (some .int) 125 [(3, .inl e)] [] ids cG σ 0 0 Rt) : pw l (px_R 7) y_PR_ifLoad c_PR_ifLoad 5 (some .int) 71 [(0, .inr (some (0, 0, 0))), (3, .inl s.1), (4, .inl s.2)] [] ids cG σ 0 0 Rt := by
  refine px_it_rule (f := PR_ifLoad_L71 σ) (C := fun s => pw l (px_R 7) y_PR_ifLoad c_PR_ifLoad 5 (some .int) 71 [(0, .inr (some (0, 0, 0))), (3, .inl s.1), (4, .inl s.2)] [] ids cG σ 0 0 Rt) (X := fun e => (pw l (px_R 7) y_PR_ifLoad c_PR_ifLoad 5 (some .int) 125 [(3, .inl e)] [] ids cG σ 0 0 Rt)) ?_ ?_ n s e h hX0
  · intro s s1 hf hC
    exact PR_ifLoad_n71_l hf (fun s2 hs => by cases hs; exact hC) (fun e he => by cases he)
  · intro s e hf hX
    exact PR_ifLoad_n71_l hf (fun s2 hs => by cases hs) (fun e1 he => by cases he; exact hX)
def F_PR_ifLoad (σ : pxS) (v1 : Int32) (v2 : Int32) : Option (Int32 × pxS) :=
  px_b1 (F_PR_isRail σ v1) fun r1 =>
  (if r1 = 0 then PR_ifLoad_n19 σ  else (if v2 < 0 then PR_ifLoad_n19 σ  else (if v2 ≤ 9999 then px_b1 (F_Bo_copyFrom σ 2 1) fun σ2 =>
  px_gd v1 12 (px_l (px_up σ2 (3, 2, v1.toNatClampNeg) 0 v2) fun σ4 =>
  px_b1 (px_it (PR_ifLoad_L47 ) px_N (0, σ4)) fun e7 =>
  px_b1 (px_it (PR_ifLoad_L71 e7) px_N (0, 0)) fun e12 =>
  some (e12, e7)) else PR_ifLoad_n19 σ )))
set_option maxRecDepth 100000 in
theorem e_PR_ifLoad {l : Launch} {ids : List pxI} {Rt : Option pxV → List pxI → pxG → pxS → Prop} {σ : pxS} {v1 : Int32} {v2 : Int32} {res : Int32 × pxS} (h : F_PR_ifLoad σ v1 v2 = some res) (hR : Rt (some (.inl res.1)) ids cG res.2) : pw l (px_R 7) y_PR_ifLoad c_PR_ifLoad 5 (some .int) 0 [(0, .inr (some (0, 0, 0))), (1, .inl v1), (2, .inl v2)] [] ids cG σ 0 0 Rt := by
  unfold F_PR_ifLoad at h
  refine pw_aload_n 0 (px_at td_PR_ifLoad 0 rfl) rfl rfl ?_
  refine pw_iload_n 1 (px_at td_PR_ifLoad 1 rfl) rfl rfl ?_
  obtain ⟨r1, hk1, h⟩ := px_b1_e h
  refine pw_cV1 (0, 0, 0) [.inl v1] [] (px_at td_PR_ifLoad 2 rfl) lV_PR_101 rfl rfl rfl (Nat.le_of_ble_eq_true rfl) (by decide) (k_PR_isRail hk1) ?_
  rcases px_ite h with ⟨hc15, h⟩ | ⟨hc15, h⟩
  · refine pw_if_eq 19 (px_at td_PR_ifLoad 3 rfl) (by decide) (fun _ => ?_) (fun hn => absurd hc15 hn)
    refine pw_L [] [] rfl ?_
    exact PR_ifLoad_n19_l h hR
  · refine pw_if_eq 19 (px_at td_PR_ifLoad 3 rfl) (by decide) (fun hn => absurd hn hc15) (fun _ => ?_)
    refine pw_iload_n 2 (px_at td_PR_ifLoad 4 rfl) rfl rfl ?_
    rcases px_ite h with ⟨hc14, h⟩ | ⟨hc14, h⟩
    · refine pw_if_lt 19 (px_at td_PR_ifLoad 5 rfl) (by decide) (fun _ => ?_) (fun hn => absurd hc14 hn)
      refine pw_L [] [] rfl ?_
      exact PR_ifLoad_n19_l h hR
    · refine pw_if_lt 19 (px_at td_PR_ifLoad 5 rfl) (by decide) (fun hn => absurd hn hc14) (fun _ => ?_)
      refine pw_iload_n 2 (px_at td_PR_ifLoad 6 rfl) rfl rfl ?_
      refine pw_sipush (v := 9999) (px_at td_PR_ifLoad 7 rfl) (by decide) ?_
      rcases px_ite h with ⟨hc13, h⟩ | ⟨hc13, h⟩
      · refine pw_icmp_le 21 (px_at td_PR_ifLoad 8 rfl) (by decide) (fun _ => ?_) (fun hn => absurd hc13 hn)
        refine pw_aload_n 0 (px_at td_PR_ifLoad 11 rfl) rfl rfl ?_
        refine pw_getf (v := .inr (some (2, 2, 0))) (px_at td_PR_ifLoad 12 rfl) lf_PR_52 rfl rfl rfl ?_
        refine pw_aload_n 0 (px_at td_PR_ifLoad 13 rfl) rfl rfl ?_
        refine pw_getf (v := .inr (some (2, 1, 0))) (px_at td_PR_ifLoad 14 rfl) lf_PR_49 rfl rfl rfl ?_
        obtain ⟨σ2, hk2, h⟩ := px_b1_e h
        refine pw_cV0 (2, 2, 0) [.inr (some (2, 1, 0))] [] (px_at td_PR_ifLoad 15 rfl) lV_PR_273 rfl rfl rfl (Nat.le_of_ble_eq_true rfl) (by decide) (k_Bo_copyFrom hk2) ?_
        refine pw_aload_n 0 (px_at td_PR_ifLoad 16 rfl) rfl rfl ?_
        refine pw_getf (v := .inr (some (2, 2, 0))) (px_at td_PR_ifLoad 17 rfl) lf_PR_52 rfl rfl rfl ?_
        refine pw_getf (v := .inr (some (9, 2, 0))) (px_at td_PR_ifLoad 18 rfl) lf_PR_109 rfl rfl rfl ?_
        refine pw_iload_n 1 (px_at td_PR_ifLoad 19 rfl) rfl rfl ?_
        obtain ⟨hi3, h⟩ := px_gd_e h
        refine pw_aald (r := (3, 2, v1.toNatClampNeg)) (px_at td_PR_ifLoad 20 rfl) rfl (fun _ => rfl) hi3 rfl ?_
        refine pw_iload_n 2 (px_at td_PR_ifLoad 21 rfl) rfl rfl ?_
        obtain ⟨σ4, hσ4, h⟩ := px_l_e h
        refine pw_puti (px_at td_PR_ifLoad 22 rfl) lw_PR_127 rfl rfl (pw_s hσ4 ?_)
        refine pw_iconst (v := 0) (px_at td_PR_ifLoad 23 rfl) (by decide) ?_
        refine pw_istore_n (L' := [(3, .inl 0), (0, .inr (some (0, 0, 0))), (1, .inl v1), (2, .inl v2)]) (px_at td_PR_ifLoad 24 rfl) rfl (by decide) rfl ?_
        obtain ⟨e7, he7, h⟩ := px_b1_e h
        refine pw_L [(0, .inr (some (0, 0, 0))), (3, .inl 0)] [1, 0] rfl ?_
        refine PR_ifLoad_L47_l he7 ?_
        refine pw_iconst (v := 0) (px_at td_PR_ifLoad 33 rfl) (by decide) ?_
        refine pw_istore_n (L' := [(3, .inl 0), (0, .inr (some (0, 0, 0)))]) (px_at td_PR_ifLoad 34 rfl) rfl (by decide) rfl ?_
        refine pw_iconst (v := 0) (px_at td_PR_ifLoad 35 rfl) (by decide) ?_
        refine pw_istore (L' := [(4, .inl 0), (3, .inl 0), (0, .inr (some (0, 0, 0)))]) (px_at td_PR_ifLoad 36 rfl) (by decide) rfl ?_
        obtain ⟨e12, he12, h⟩ := px_b1_e h
        refine pw_L [(0, .inr (some (0, 0, 0))), (3, .inl 0), (4, .inl 0)] [2, 1, 0] rfl ?_
        refine PR_ifLoad_L71_l he12 ?_
        refine pw_iload_n 0 (px_at td_PR_ifLoad 63 rfl) rfl rfl ?_
        obtain rfl := Option.some.inj h
        exact pw_iret (px_at td_PR_ifLoad 64 rfl) rfl (Nat.le_refl 0) (Nat.le_refl 0) hR
      · refine pw_icmp_le 21 (px_at td_PR_ifLoad 8 rfl) (by decide) (fun hn => absurd hn hc13) (fun _ => ?_)
        refine pw_L [] [] rfl ?_
        exact PR_ifLoad_n19_l h hR
theorem k_PR_ifLoad {l : Launch} {ids : List pxI} {σ : pxS} {v1 : Int32} {v2 : Int32} {res : Int32 × pxS} (h : F_PR_ifLoad σ v1 v2 = some res) : pm l y_PR_ifLoad c_PR_ifLoad 5 (some .int) (px_R 7) [.inr (some (0, 0, 0)), .inl v1, .inl v2] ids cG σ (px_r (some (.inl res.1)) ids cG res.2) :=
  pm_ofF (by decide +kernel) (Nat.le_of_ble_eq_true rfl) (e_PR_ifLoad h ⟨rfl, rfl, rfl, rfl⟩)
/-! PR_ifOff -/
def F_PR_ifOff (σ : pxS) (v1 : Int32) : Option (Int32 × pxS) :=
  px_b1 (F_PR_isRail σ v1) fun r1 =>
  (if r1 = 0 then some ((-1), σ) else px_b1 (F_Bo_copyFrom σ 2 1) fun σ2 =>
  px_b1 (F_Bo_askRail σ2 2 v1 1) fun σ3 =>
  some ((((σ3 (4, 2, 1) 2) &&& ((σ3 (4, 1, 1) 2) ^^^ (-1))) ||| ((σ3 (4, 1, 0) 2) &&& ((σ3 (4, 2, 0) 2) ^^^ (-1)))), σ3))
set_option maxRecDepth 100000 in
theorem e_PR_ifOff {l : Launch} {ids : List pxI} {Rt : Option pxV → List pxI → pxG → pxS → Prop} {σ : pxS} {v1 : Int32} {res : Int32 × pxS} (h : F_PR_ifOff σ v1 = some res) (hR : Rt (some (.inl res.1)) ids cG res.2) : pw l (px_R 4) y_PR_ifOff c_PR_ifOff 4 (some .int) 0 [(0, .inr (some (0, 0, 0))), (1, .inl v1)] [] ids cG σ 0 0 Rt := by
  unfold F_PR_ifOff at h
  refine pw_aload_n 0 (px_at td_PR_ifOff 0 rfl) rfl rfl ?_
  refine pw_iload_n 1 (px_at td_PR_ifOff 1 rfl) rfl rfl ?_
  obtain ⟨r1, hk1, h⟩ := px_b1_e h
  refine pw_cV1 (0, 0, 0) [.inl v1] [] (px_at td_PR_ifOff 2 rfl) lV_PR_101 rfl rfl rfl (Nat.le_of_ble_eq_true rfl) (by decide) (k_PR_isRail hk1) ?_
  rcases px_ite h with ⟨hc4, h⟩ | ⟨hc4, h⟩
  · refine pw_if_ne 10 (px_at td_PR_ifOff 3 rfl) (by decide) (fun hn => absurd hc4 hn) (fun _ => ?_)
    refine pw_iconst (v := (-1)) (px_at td_PR_ifOff 4 rfl) (by decide) ?_
    obtain rfl := Option.some.inj h
    exact pw_iret (px_at td_PR_ifOff 5 rfl) rfl (Nat.le_refl 0) (Nat.le_refl 0) hR
  · refine pw_if_ne 10 (px_at td_PR_ifOff 3 rfl) (by decide) (fun _ => ?_) (fun hn => absurd hn hc4)
    refine pw_aload_n 0 (px_at td_PR_ifOff 6 rfl) rfl rfl ?_
    refine pw_getf (v := .inr (some (2, 2, 0))) (px_at td_PR_ifOff 7 rfl) lf_PR_52 rfl rfl rfl ?_
    refine pw_aload_n 0 (px_at td_PR_ifOff 8 rfl) rfl rfl ?_
    refine pw_getf (v := .inr (some (2, 1, 0))) (px_at td_PR_ifOff 9 rfl) lf_PR_49 rfl rfl rfl ?_
    obtain ⟨σ2, hk2, h⟩ := px_b1_e h
    refine pw_cV0 (2, 2, 0) [.inr (some (2, 1, 0))] [] (px_at td_PR_ifOff 10 rfl) lV_PR_273 rfl rfl rfl (Nat.le_of_ble_eq_true rfl) (by decide) (k_Bo_copyFrom hk2) ?_
    refine pw_aload_n 0 (px_at td_PR_ifOff 11 rfl) rfl rfl ?_
    refine pw_getf (v := .inr (some (2, 2, 0))) (px_at td_PR_ifOff 12 rfl) lf_PR_52 rfl rfl rfl ?_
    refine pw_iload_n 1 (px_at td_PR_ifOff 13 rfl) rfl rfl ?_
    refine pw_iconst (v := 1) (px_at td_PR_ifOff 14 rfl) (by decide) ?_
    obtain ⟨σ3, hk3, h⟩ := px_b1_e h
    refine pw_cV0 (2, 2, 0) [.inl v1, .inl 1] [] (px_at td_PR_ifOff 15 rfl) lV_PR_105 rfl rfl rfl (Nat.le_of_ble_eq_true rfl) (by decide) (k_Bo_askRail hk3) ?_
    refine pw_aload_n 0 (px_at td_PR_ifOff 16 rfl) rfl rfl ?_
    refine pw_getf (v := .inr (some (2, 2, 0))) (px_at td_PR_ifOff 17 rfl) lf_PR_52 rfl rfl rfl ?_
    refine pw_getf (v := .inr (some (4, 2, 1))) (px_at td_PR_ifOff 18 rfl) lf_PR_186 rfl rfl rfl ?_
    refine pw_getf (v := .inl (σ3 (4, 2, 1) 2)) (px_at td_PR_ifOff 19 rfl) lf_PR_287 rfl rfl rfl ?_
    refine pw_aload_n 0 (px_at td_PR_ifOff 20 rfl) rfl rfl ?_
    refine pw_getf (v := .inr (some (2, 1, 0))) (px_at td_PR_ifOff 21 rfl) lf_PR_49 rfl rfl rfl ?_
    refine pw_getf (v := .inr (some (4, 1, 1))) (px_at td_PR_ifOff 22 rfl) lf_PR_186 rfl rfl rfl ?_
    refine pw_getf (v := .inl (σ3 (4, 1, 1) 2)) (px_at td_PR_ifOff 23 rfl) lf_PR_287 rfl rfl rfl ?_
    refine pw_iconst (v := (-1)) (px_at td_PR_ifOff 24 rfl) (by decide) ?_
    refine pw_ixor (px_at td_PR_ifOff 25 rfl) ?_
    refine pw_iand (px_at td_PR_ifOff 26 rfl) ?_
    refine pw_istore_n (L' := [(2, .inl ((σ3 (4, 2, 1) 2) &&& ((σ3 (4, 1, 1) 2) ^^^ (-1)))), (0, .inr (some (0, 0, 0))), (1, .inl v1)]) (px_at td_PR_ifOff 27 rfl) rfl (by decide) rfl ?_
    refine pw_aload_n 1 (px_at td_PR_ifOff 28 rfl) rfl rfl ?_
    refine pw_getf (v := .inr (some (2, 1, 0))) (px_at td_PR_ifOff 29 rfl) lf_PR_49 rfl rfl rfl ?_
    refine pw_getf (v := .inr (some (4, 1, 0))) (px_at td_PR_ifOff 30 rfl) lf_PR_195 rfl rfl rfl ?_
    refine pw_getf (v := .inl (σ3 (4, 1, 0) 2)) (px_at td_PR_ifOff 31 rfl) lf_PR_287 rfl rfl rfl ?_
    refine pw_aload_n 1 (px_at td_PR_ifOff 32 rfl) rfl rfl ?_
    refine pw_getf (v := .inr (some (2, 2, 0))) (px_at td_PR_ifOff 33 rfl) lf_PR_52 rfl rfl rfl ?_
    refine pw_getf (v := .inr (some (4, 2, 0))) (px_at td_PR_ifOff 34 rfl) lf_PR_195 rfl rfl rfl ?_
    refine pw_getf (v := .inl (σ3 (4, 2, 0) 2)) (px_at td_PR_ifOff 35 rfl) lf_PR_287 rfl rfl rfl ?_
    refine pw_iconst (v := (-1)) (px_at td_PR_ifOff 36 rfl) (by decide) ?_
    refine pw_ixor (px_at td_PR_ifOff 37 rfl) ?_
    refine pw_iand (px_at td_PR_ifOff 38 rfl) ?_
    refine pw_istore_n (L' := [(3, .inl ((σ3 (4, 1, 0) 2) &&& ((σ3 (4, 2, 0) 2) ^^^ (-1)))), (2, .inl ((σ3 (4, 2, 1) 2) &&& ((σ3 (4, 1, 1) 2) ^^^ (-1)))), (0, .inr (some (0, 0, 0))), (1, .inl v1)]) (px_at td_PR_ifOff 39 rfl) rfl (by decide) rfl ?_
    refine pw_iload_n 1 (px_at td_PR_ifOff 40 rfl) rfl rfl ?_
    refine pw_iload_n 0 (px_at td_PR_ifOff 41 rfl) rfl rfl ?_
    refine pw_ior (px_at td_PR_ifOff 42 rfl) ?_
    obtain rfl := Option.some.inj h
    exact pw_iret (px_at td_PR_ifOff 43 rfl) rfl (Nat.le_refl 0) (Nat.le_refl 0) hR
theorem k_PR_ifOff {l : Launch} {ids : List pxI} {σ : pxS} {v1 : Int32} {res : Int32 × pxS} (h : F_PR_ifOff σ v1 = some res) : pm l y_PR_ifOff c_PR_ifOff 4 (some .int) (px_R 4) [.inr (some (0, 0, 0)), .inl v1] ids cG σ (px_r (some (.inl res.1)) ids cG res.2) :=
  pm_ofF (by decide +kernel) (Nat.le_of_ble_eq_true rfl) (e_PR_ifOff h ⟨rfl, rfl, rfl, rfl⟩)
/-! PR_totalIfOff -/
def PR_totalIfOff_n22 (σ : pxS) (v2 : Int32) (v3 : Int32) : Option ((Int32 × pxS) ⊕ (pxS)) :=
  (if v2 ≤ v3 then some (.inr σ) else px_b1 (F_Bo_pass σ 2) fun σ3 =>
  some (.inl ((v3 + 1), σ3)))
set_option maxRecDepth 100000 in
theorem PR_totalIfOff_n22_l {l : Launch} {ids : List pxI} {Rt : Option pxV → List pxI → pxG → pxS → Prop} {σ : pxS} {v2 : Int32} {v3 : Int32} {o : (Int32 × pxS) ⊕ (pxS)} (h : PR_totalIfOff_n22 σ v2 v3 = some o) (hC : ∀ s, o = .inl s → pw l (px_R 7) y_PR_totalIfOff c_PR_totalIfOff 4 (some .int) 22 [(0, .inr (some (0, 0, 0))), (2, .inl v2), (3, .inl s.1)] [] ids cG s.2 0 0 Rt) (hX0 : ∀ e, o = .inr e → pw l (px_R 7) y_PR_totalIfOff c_PR_totalIfOff 4 (some .int) 40 [(0, .inr (some (0, 0, 0)))] [] ids cG e 0 0 Rt) : pw l (px_R 7) y_PR_totalIfOff c_PR_totalIfOff 4 (some .int) 22 [(0, .inr (some (0, 0, 0))), (2, .inl v2), (3, .inl v3)] [] ids cG σ 0 0 Rt := by
  unfold PR_totalIfOff_n22 at h
  refine pw_iload_n 2 (px_at td_PR_totalIfOff 12 rfl) rfl rfl ?_
  refine pw_iload_n 1 (px_at td_PR_totalIfOff 13 rfl) rfl rfl ?_
  rcases px_ite h with ⟨hc4, h⟩ | ⟨hc4, h⟩
  · refine pw_icmp_ge 40 (px_at td_PR_totalIfOff 14 rfl) (by decide) (fun _ => ?_) (fun hn => absurd hc4 hn)
    refine pw_L [(0, .inr (some (0, 0, 0)))] [0] rfl ?_
    exact hX0 σ (Option.some.inj h).symm
  · refine pw_icmp_ge 40 (px_at td_PR_totalIfOff 14 rfl) (by decide) (fun hn => absurd hn hc4) (fun _ => ?_)
    refine pw_aload_n 0 (px_at td_PR_totalIfOff 15 rfl) rfl rfl ?_
    refine pw_getf (v := .inr (some (2, 2, 0))) (px_at td_PR_totalIfOff 16 rfl) lf_PR_52 rfl rfl rfl ?_
    obtain ⟨σ3, hk3, h⟩ := px_b1_e h
    refine pw_cV0 (2, 2, 0) [] [] (px_at td_PR_totalIfOff 17 rfl) lV_PR_98 rfl rfl rfl (Nat.le_of_ble_eq_true rfl) (by decide) (k_Bo_pass hk3) ?_
    refine pw_iinc (q := 2) (v := (v3 + 1)) (L' := [(3, .inl (v3 + 1)), (0, .inr (some (0, 0, 0))), (2, .inl v2)]) (px_at td_PR_totalIfOff 18 rfl) rfl rfl (by decide) rfl ?_
    refine pw_goto 22 (px_at td_PR_totalIfOff 19 rfl) (by decide) ?_
    refine pw_L [(0, .inr (some (0, 0, 0))), (2, .inl v2), (3, .inl (v3 + 1))] [1, 2, 0] rfl ?_
    exact hC ((v3 + 1), σ3) (Option.some.inj h).symm
def PR_totalIfOff_L22 (v2 : Int32) : (Int32 × pxS) → Option ((Int32 × pxS) ⊕ (pxS)) := fun s => PR_totalIfOff_n22 s.2 v2 s.1
set_option maxRecDepth 100000 in
theorem PR_totalIfOff_L22_l {l : Launch} {ids : List pxI} {Rt : Option pxV → List pxI → pxG → pxS → Prop} {v2 : Int32} {n : Nat} {s : Int32 × pxS} {e : pxS} (h : px_it (PR_totalIfOff_L22 v2) n s = some e) (hX0 : pw l (px_R 7) y_PR_totalIfOff c_PR_totalIfOff 4 (some .int) 40 [(0, .inr (some (0, 0, 0)))] [] ids cG e 0 0 Rt) : pw l (px_R 7) y_PR_totalIfOff c_PR_totalIfOff 4 (some .int) 22 [(0, .inr (some (0, 0, 0))), (2, .inl v2), (3, .inl s.1)] [] ids cG s.2 0 0 Rt := by
  refine px_it_rule (f := PR_totalIfOff_L22 v2) (C := fun s => pw l (px_R 7) y_PR_totalIfOff c_PR_totalIfOff 4 (some .int) 22 [(0, .inr (some (0, 0, 0))), (2, .inl v2), (3, .inl s.1)] [] ids cG s.2 0 0 Rt) (X := fun e => (pw l (px_R 7) y_PR_totalIfOff c_PR_totalIfOff 4 (some .int) 40 [(0, .inr (some (0, 0, 0)))] [] ids cG e 0 0 Rt)) ?_ ?_ n s e h hX0
  · intro s s1 hf hC
    exact PR_totalIfOff_n22_l hf (fun s2 hs => by cases hs; exact hC) (fun e he => by cases he)
  · intro s e hf hX
    exact PR_totalIfOff_n22_l hf (fun s2 hs => by cases hs) (fun e1 he => by cases he; exact hX)
def F_PR_totalIfOff (σ : pxS) (v1 : Int32) (v2 : Int32) : Option (Int32 × pxS) :=
  px_b1 (F_Bo_copyFrom σ 2 1) fun σ1 =>
  px_b1 (F_Bo_askRail σ1 2 v1 1) fun σ2 =>
  px_b1 (px_it (PR_totalIfOff_L22 v2) px_N (0, σ2)) fun e5 =>
  some ((e5 (2, 2, 0) 6), e5)
set_option maxRecDepth 100000 in
theorem e_PR_totalIfOff {l : Launch} {ids : List pxI} {Rt : Option pxV → List pxI → pxG → pxS → Prop} {σ : pxS} {v1 : Int32} {v2 : Int32} {res : Int32 × pxS} (h : F_PR_totalIfOff σ v1 v2 = some res) (hR : Rt (some (.inl res.1)) ids cG res.2) : pw l (px_R 7) y_PR_totalIfOff c_PR_totalIfOff 4 (some .int) 0 [(0, .inr (some (0, 0, 0))), (1, .inl v1), (2, .inl v2)] [] ids cG σ 0 0 Rt := by
  unfold F_PR_totalIfOff at h
  refine pw_aload_n 0 (px_at td_PR_totalIfOff 0 rfl) rfl rfl ?_
  refine pw_getf (v := .inr (some (2, 2, 0))) (px_at td_PR_totalIfOff 1 rfl) lf_PR_52 rfl rfl rfl ?_
  refine pw_aload_n 0 (px_at td_PR_totalIfOff 2 rfl) rfl rfl ?_
  refine pw_getf (v := .inr (some (2, 1, 0))) (px_at td_PR_totalIfOff 3 rfl) lf_PR_49 rfl rfl rfl ?_
  obtain ⟨σ1, hk1, h⟩ := px_b1_e h
  refine pw_cV0 (2, 2, 0) [.inr (some (2, 1, 0))] [] (px_at td_PR_totalIfOff 4 rfl) lV_PR_273 rfl rfl rfl (Nat.le_of_ble_eq_true rfl) (by decide) (k_Bo_copyFrom hk1) ?_
  refine pw_aload_n 0 (px_at td_PR_totalIfOff 5 rfl) rfl rfl ?_
  refine pw_getf (v := .inr (some (2, 2, 0))) (px_at td_PR_totalIfOff 6 rfl) lf_PR_52 rfl rfl rfl ?_
  refine pw_iload_n 1 (px_at td_PR_totalIfOff 7 rfl) rfl rfl ?_
  refine pw_iconst (v := 1) (px_at td_PR_totalIfOff 8 rfl) (by decide) ?_
  obtain ⟨σ2, hk2, h⟩ := px_b1_e h
  refine pw_cV0 (2, 2, 0) [.inl v1, .inl 1] [] (px_at td_PR_totalIfOff 9 rfl) lV_PR_105 rfl rfl rfl (Nat.le_of_ble_eq_true rfl) (by decide) (k_Bo_askRail hk2) ?_
  refine pw_iconst (v := 0) (px_at td_PR_totalIfOff 10 rfl) (by decide) ?_
  refine pw_istore_n (L' := [(3, .inl 0), (0, .inr (some (0, 0, 0))), (1, .inl v1), (2, .inl v2)]) (px_at td_PR_totalIfOff 11 rfl) rfl (by decide) rfl ?_
  obtain ⟨e5, he5, h⟩ := px_b1_e h
  refine pw_L [(0, .inr (some (0, 0, 0))), (2, .inl v2), (3, .inl 0)] [1, 3, 0] rfl ?_
  refine PR_totalIfOff_L22_l he5 ?_
  refine pw_aload_n 0 (px_at td_PR_totalIfOff 20 rfl) rfl rfl ?_
  refine pw_getf (v := .inr (some (2, 2, 0))) (px_at td_PR_totalIfOff 21 rfl) lf_PR_52 rfl rfl rfl ?_
  refine pw_getf (v := .inl (e5 (2, 2, 0) 6)) (px_at td_PR_totalIfOff 22 rfl) lf_PR_245 rfl rfl rfl ?_
  obtain rfl := Option.some.inj h
  exact pw_iret (px_at td_PR_totalIfOff 23 rfl) rfl (Nat.le_refl 0) (Nat.le_refl 0) hR
theorem k_PR_totalIfOff {l : Launch} {ids : List pxI} {σ : pxS} {v1 : Int32} {v2 : Int32} {res : Int32 × pxS} (h : F_PR_totalIfOff σ v1 v2 = some res) : pm l y_PR_totalIfOff c_PR_totalIfOff 4 (some .int) (px_R 7) [.inr (some (0, 0, 0)), .inl v1, .inl v2] ids cG σ (px_r (some (.inl res.1)) ids cG res.2) :=
  pm_ofF (by decide +kernel) (Nat.le_of_ble_eq_true rfl) (e_PR_totalIfOff h ⟨rfl, rfl, rfl, rfl⟩)
/-! PR_bestOff -/
def PR_bestOff_n11 (σ : pxS)  : Option (Int32 × pxS) :=
  some ((-1), σ)
set_option maxRecDepth 100000 in
theorem PR_bestOff_n11_l {l : Launch} {ids : List pxI} {Rt : Option pxV → List pxI → pxG → pxS → Prop} {σ : pxS}  {res : Int32 × pxS} (h : PR_bestOff_n11 σ  = some res) (hR : Rt (some (.inl res.1)) ids cG res.2) : pw l (px_R 8) y_PR_bestOff c_PR_bestOff 6 (some .int) 11 [] [] ids cG σ 0 0 Rt := by
  unfold PR_bestOff_n11 at h
  refine pw_iconst (v := (-1)) (px_at td_PR_bestOff 6 rfl) (by decide) ?_
  obtain rfl := Option.some.inj h
  exact pw_iret (px_at td_PR_bestOff 7 rfl) rfl (Nat.le_refl 0) (Nat.le_refl 0) hR
def PR_bestOff_n70 (σ : pxS) (v1 : Int32) (v2 : Int32) (v3 : Int32) (v4 : Int32) : Option ((Int32 × Int32 × Int32 × pxS) ⊕ (Int32 × pxS)) :=
  some (.inl (v2, v3, (v4 + 1), σ))
set_option maxRecDepth 100000 in
theorem PR_bestOff_n70_l {l : Launch} {ids : List pxI} {Rt : Option pxV → List pxI → pxG → pxS → Prop} {σ : pxS} {v1 : Int32} {v2 : Int32} {v3 : Int32} {v4 : Int32} {o : (Int32 × Int32 × Int32 × pxS) ⊕ (Int32 × pxS)} (h : PR_bestOff_n70 σ v1 v2 v3 v4 = some o) (hC : ∀ s, o = .inl s → pw l (px_R 8) y_PR_bestOff c_PR_bestOff 6 (some .int) 21 [(0, .inr (some (0, 0, 0))), (1, .inl v1), (2, .inl s.1), (3, .inl s.2.1), (4, .inl s.2.2.1)] [] ids cG s.2.2.2 0 0 Rt) (hX0 : ∀ e, o = .inr e → pw l (px_R 8) y_PR_bestOff c_PR_bestOff 6 (some .int) 76 [(2, .inl e.1)] [] ids cG e.2 0 0 Rt) : pw l (px_R 8) y_PR_bestOff c_PR_bestOff 6 (some .int) 70 [(0, .inr (some (0, 0, 0))), (1, .inl v1), (2, .inl v2), (3, .inl v3), (4, .inl v4)] [] ids cG σ 0 0 Rt := by
  unfold PR_bestOff_n70 at h
  refine pw_iinc (q := 4) (v := (v4 + 1)) (L' := [(4, .inl (v4 + 1)), (0, .inr (some (0, 0, 0))), (1, .inl v1), (2, .inl v2), (3, .inl v3)]) (px_at td_PR_bestOff 38 rfl) rfl rfl (by decide) rfl ?_
  refine pw_goto 21 (px_at td_PR_bestOff 39 rfl) (by decide) ?_
  refine pw_L [(0, .inr (some (0, 0, 0))), (1, .inl v1), (2, .inl v2), (3, .inl v3), (4, .inl (v4 + 1))] [1, 2, 3, 4, 0] rfl ?_
  exact hC (v2, v3, (v4 + 1), σ) (Option.some.inj h).symm
def PR_bestOff_n64 (σ : pxS) (v1 : Int32) (v4 : Int32) (v5 : Int32) : Option ((Int32 × Int32 × Int32 × pxS) ⊕ (Int32 × pxS)) :=
  PR_bestOff_n70 σ v1 v4 v5 v4
set_option maxRecDepth 100000 in
theorem PR_bestOff_n64_l {l : Launch} {ids : List pxI} {Rt : Option pxV → List pxI → pxG → pxS → Prop} {σ : pxS} {v1 : Int32} {v4 : Int32} {v5 : Int32} {o : (Int32 × Int32 × Int32 × pxS) ⊕ (Int32 × pxS)} (h : PR_bestOff_n64 σ v1 v4 v5 = some o) (hC : ∀ s, o = .inl s → pw l (px_R 8) y_PR_bestOff c_PR_bestOff 6 (some .int) 21 [(0, .inr (some (0, 0, 0))), (1, .inl v1), (2, .inl s.1), (3, .inl s.2.1), (4, .inl s.2.2.1)] [] ids cG s.2.2.2 0 0 Rt) (hX0 : ∀ e, o = .inr e → pw l (px_R 8) y_PR_bestOff c_PR_bestOff 6 (some .int) 76 [(2, .inl e.1)] [] ids cG e.2 0 0 Rt) : pw l (px_R 8) y_PR_bestOff c_PR_bestOff 6 (some .int) 64 [(0, .inr (some (0, 0, 0))), (1, .inl v1), (4, .inl v4), (5, .inl v5)] [] ids cG σ 0 0 Rt := by
  unfold PR_bestOff_n64 at h
  refine pw_iload 2 (px_at td_PR_bestOff 34 rfl) rfl ?_
  refine pw_istore_n (L' := [(2, .inl v4), (0, .inr (some (0, 0, 0))), (1, .inl v1), (4, .inl v4), (5, .inl v5)]) (px_at td_PR_bestOff 35 rfl) rfl (by decide) rfl ?_
  refine pw_iload 4 (px_at td_PR_bestOff 36 rfl) rfl ?_
  refine pw_istore_n (L' := [(3, .inl v5), (2, .inl v4), (0, .inr (some (0, 0, 0))), (1, .inl v1), (4, .inl v4), (5, .inl v5)]) (px_at td_PR_bestOff 37 rfl) rfl (by decide) rfl ?_
  refine pw_L [(0, .inr (some (0, 0, 0))), (1, .inl v1), (2, .inl v4), (3, .inl v5), (4, .inl v4)] [2, 3, 1, 0, 4] rfl ?_
  exact PR_bestOff_n70_l h hC hX0
def PR_bestOff_n21 (σ : pxS) (v1 : Int32) (v2 : Int32) (v3 : Int32) (v4 : Int32) : Option ((Int32 × Int32 × Int32 × pxS) ⊕ (Int32 × pxS)) :=
  (if (σ (1, (σ (0, 0, 0) 6).toNatClampNeg, 0) 0) ≤ v4 then some (.inr (v2, σ)) else px_b1 (F_Bo_isOn σ 1 v4) fun r1 =>
  (if r1 = 0 then PR_bestOff_n70 σ v1 v2 v3 v4 else px_b2 (F_PR_totalIfOff σ v4 v1) fun r2 σ2 =>
  (if v2 < 0 then PR_bestOff_n64 σ2 v1 v4 r2 else (if v3 ≤ r2 then PR_bestOff_n70 σ2 v1 v2 v3 v4 else PR_bestOff_n64 σ2 v1 v4 r2))))
set_option maxRecDepth 100000 in
theorem PR_bestOff_n21_l {l : Launch} {ids : List pxI} {Rt : Option pxV → List pxI → pxG → pxS → Prop} {σ : pxS} {v1 : Int32} {v2 : Int32} {v3 : Int32} {v4 : Int32} {o : (Int32 × Int32 × Int32 × pxS) ⊕ (Int32 × pxS)} (h : PR_bestOff_n21 σ v1 v2 v3 v4 = some o) (hC : ∀ s, o = .inl s → pw l (px_R 8) y_PR_bestOff c_PR_bestOff 6 (some .int) 21 [(0, .inr (some (0, 0, 0))), (1, .inl v1), (2, .inl s.1), (3, .inl s.2.1), (4, .inl s.2.2.1)] [] ids cG s.2.2.2 0 0 Rt) (hX0 : ∀ e, o = .inr e → pw l (px_R 8) y_PR_bestOff c_PR_bestOff 6 (some .int) 76 [(2, .inl e.1)] [] ids cG e.2 0 0 Rt) : pw l (px_R 8) y_PR_bestOff c_PR_bestOff 6 (some .int) 21 [(0, .inr (some (0, 0, 0))), (1, .inl v1), (2, .inl v2), (3, .inl v3), (4, .inl v4)] [] ids cG σ 0 0 Rt := by
  unfold PR_bestOff_n21 at h
  refine pw_iload 4 (px_at td_PR_bestOff 14 rfl) rfl ?_
  refine pw_aload_n 0 (px_at td_PR_bestOff 15 rfl) rfl rfl ?_
  refine pw_getf (v := .inr (some (1, (σ (0, 0, 0) 6).toNatClampNeg, 0))) (px_at td_PR_bestOff 16 rfl) lf_PR_31 rfl rfl rfl ?_
  refine pw_getf (v := .inl (σ (1, (σ (0, 0, 0) 6).toNatClampNeg, 0) 0)) (px_at td_PR_bestOff 17 rfl) lf_PR_254 rfl rfl rfl ?_
  rcases px_ite h with ⟨hc6, h⟩ | ⟨hc6, h⟩
  · refine pw_icmp_ge 76 (px_at td_PR_bestOff 18 rfl) (by decide) (fun _ => ?_) (fun hn => absurd hc6 hn)
    refine pw_L [(2, .inl v2)] [2] rfl ?_
    exact hX0 (v2, σ) (Option.some.inj h).symm
  · refine pw_icmp_ge 76 (px_at td_PR_bestOff 18 rfl) (by decide) (fun hn => absurd hn hc6) (fun _ => ?_)
    refine pw_aload_n 0 (px_at td_PR_bestOff 19 rfl) rfl rfl ?_
    refine pw_getf (v := .inr (some (2, 1, 0))) (px_at td_PR_bestOff 20 rfl) lf_PR_49 rfl rfl rfl ?_
    refine pw_iload 4 (px_at td_PR_bestOff 21 rfl) rfl ?_
    obtain ⟨r1, hk1, h⟩ := px_b1_e h
    refine pw_cV1 (2, 1, 0) [.inl v4] [] (px_at td_PR_bestOff 22 rfl) lV_PR_290 rfl rfl rfl (Nat.le_of_ble_eq_true rfl) (by decide) (k_Bo_isOn hk1) ?_
    rcases px_ite h with ⟨hc5, h⟩ | ⟨hc5, h⟩
    · refine pw_if_eq 70 (px_at td_PR_bestOff 23 rfl) (by decide) (fun _ => ?_) (fun hn => absurd hc5 hn)
      exact PR_bestOff_n70_l h hC hX0
    · refine pw_if_eq 70 (px_at td_PR_bestOff 23 rfl) (by decide) (fun hn => absurd hn hc5) (fun _ => ?_)
      refine pw_aload_n 0 (px_at td_PR_bestOff 24 rfl) rfl rfl ?_
      refine pw_iload 4 (px_at td_PR_bestOff 25 rfl) rfl ?_
      refine pw_iload_n 1 (px_at td_PR_bestOff 26 rfl) rfl rfl ?_
      obtain ⟨r2, σ2, hk2, h⟩ := px_b2_e h
      refine pw_cV1 (0, 0, 0) [.inl v4, .inl v1] [] (px_at td_PR_bestOff 27 rfl) lV_PR_293 rfl rfl rfl (Nat.le_of_ble_eq_true rfl) (by decide) (k_PR_totalIfOff hk2) ?_
      refine pw_istore (L' := [(5, .inl r2), (0, .inr (some (0, 0, 0))), (1, .inl v1), (2, .inl v2), (3, .inl v3), (4, .inl v4)]) (px_at td_PR_bestOff 28 rfl) (by decide) rfl ?_
      refine pw_iload_n 3 (px_at td_PR_bestOff 29 rfl) rfl rfl ?_
      rcases px_ite h with ⟨hc4, h⟩ | ⟨hc4, h⟩
      · refine pw_if_lt 64 (px_at td_PR_bestOff 30 rfl) (by decide) (fun _ => ?_) (fun hn => absurd hc4 hn)
        refine pw_L [(0, .inr (some (0, 0, 0))), (1, .inl v1), (4, .inl v4), (5, .inl r2)] [1, 2, 5, 0] rfl ?_
        exact PR_bestOff_n64_l h hC hX0
      · refine pw_if_lt 64 (px_at td_PR_bestOff 30 rfl) (by decide) (fun hn => absurd hn hc4) (fun _ => ?_)
        refine pw_iload 0 (px_at td_PR_bestOff 31 rfl) rfl ?_
        refine pw_iload_n 4 (px_at td_PR_bestOff 32 rfl) rfl rfl ?_
        rcases px_ite h with ⟨hc3, h⟩ | ⟨hc3, h⟩
        · refine pw_icmp_ge 70 (px_at td_PR_bestOff 33 rfl) (by decide) (fun _ => ?_) (fun hn => absurd hc3 hn)
          refine pw_L [(0, .inr (some (0, 0, 0))), (1, .inl v1), (2, .inl v2), (3, .inl v3), (4, .inl v4)] [1, 2, 3, 4, 5] rfl ?_
          exact PR_bestOff_n70_l h hC hX0
        · refine pw_icmp_ge 70 (px_at td_PR_bestOff 33 rfl) (by decide) (fun hn => absurd hn hc3) (fun _ => ?_)
          refine pw_L [(0, .inr (some (0, 0, 0))), (1, .inl v1), (4, .inl v4), (5, .inl r2)] [1, 2, 5, 0] rfl ?_
          exact PR_bestOff_n64_l h hC hX0
def PR_bestOff_L21 (v1 : Int32) : (Int32 × Int32 × Int32 × pxS) → Option ((Int32 × Int32 × Int32 × pxS) ⊕ (Int32 × pxS)) := fun s => PR_bestOff_n21 s.2.2.2 v1 s.1 s.2.1 s.2.2.1
set_option maxRecDepth 100000 in
theorem PR_bestOff_L21_l {l : Launch} {ids : List pxI} {Rt : Option pxV → List pxI → pxG → pxS → Prop} {v1 : Int32} {n : Nat} {s : Int32 × Int32 × Int32 × pxS} {e : Int32 × pxS} (h : px_it (PR_bestOff_L21 v1) n s = some e) (hX0 : pw l (px_R 8) y_PR_bestOff c_PR_bestOff 6 (some .int) 76 [(2, .inl e.1)] [] ids cG e.2 0 0 Rt) : pw l (px_R 8) y_PR_bestOff c_PR_bestOff 6 (some .int) 21 [(0, .inr (some (0, 0, 0))), (1, .inl v1), (2, .inl s.1), (3, .inl s.2.1), (4, .inl s.2.2.1)] [] ids cG s.2.2.2 0 0 Rt := by
  refine px_it_rule (f := PR_bestOff_L21 v1) (C := fun s => pw l (px_R 8) y_PR_bestOff c_PR_bestOff 6 (some .int) 21 [(0, .inr (some (0, 0, 0))), (1, .inl v1), (2, .inl s.1), (3, .inl s.2.1), (4, .inl s.2.2.1)] [] ids cG s.2.2.2 0 0 Rt) (X := fun e => (pw l (px_R 8) y_PR_bestOff c_PR_bestOff 6 (some .int) 76 [(2, .inl e.1)] [] ids cG e.2 0 0 Rt)) ?_ ?_ n s e h hX0
  · intro s s1 hf hC
    exact PR_bestOff_n21_l hf (fun s2 hs => by cases hs; exact hC) (fun e he => by cases he)
  · intro s e hf hX
    exact PR_bestOff_n21_l hf (fun s2 hs => by cases hs) (fun e1 he => by cases he; exact hX)
def F_PR_bestOff (σ : pxS) (v1 : Int32) : Option (Int32 × pxS) :=
  (if v1 < 1 then PR_bestOff_n11 σ  else (if v1 ≤ 60 then px_b1 (px_it (PR_bestOff_L21 v1) px_N ((-2), 0, 0, σ)) fun e7 =>
  some (e7.1, e7.2) else PR_bestOff_n11 σ ))
set_option maxRecDepth 100000 in
theorem e_PR_bestOff {l : Launch} {ids : List pxI} {Rt : Option pxV → List pxI → pxG → pxS → Prop} {σ : pxS} {v1 : Int32} {res : Int32 × pxS} (h : F_PR_bestOff σ v1 = some res) (hR : Rt (some (.inl res.1)) ids cG res.2) : pw l (px_R 8) y_PR_bestOff c_PR_bestOff 6 (some .int) 0 [(0, .inr (some (0, 0, 0))), (1, .inl v1)] [] ids cG σ 0 0 Rt := by
  unfold F_PR_bestOff at h
  refine pw_iload_n 1 (px_at td_PR_bestOff 0 rfl) rfl rfl ?_
  refine pw_iconst (v := 1) (px_at td_PR_bestOff 1 rfl) (by decide) ?_
  rcases px_ite h with ⟨hc9, h⟩ | ⟨hc9, h⟩
  · refine pw_icmp_lt 11 (px_at td_PR_bestOff 2 rfl) (by decide) (fun _ => ?_) (fun hn => absurd hc9 hn)
    refine pw_L [] [] rfl ?_
    exact PR_bestOff_n11_l h hR
  · refine pw_icmp_lt 11 (px_at td_PR_bestOff 2 rfl) (by decide) (fun hn => absurd hn hc9) (fun _ => ?_)
    refine pw_iload_n 1 (px_at td_PR_bestOff 3 rfl) rfl rfl ?_
    refine pw_bipush (v := 60) (px_at td_PR_bestOff 4 rfl) (by decide) ?_
    rcases px_ite h with ⟨hc8, h⟩ | ⟨hc8, h⟩
    · refine pw_icmp_le 13 (px_at td_PR_bestOff 5 rfl) (by decide) (fun _ => ?_) (fun hn => absurd hc8 hn)
      refine pw_bipush (v := (-2)) (px_at td_PR_bestOff 8 rfl) (by decide) ?_
      refine pw_istore_n (L' := [(2, .inl (-2)), (0, .inr (some (0, 0, 0))), (1, .inl v1)]) (px_at td_PR_bestOff 9 rfl) rfl (by decide) rfl ?_
      refine pw_iconst (v := 0) (px_at td_PR_bestOff 10 rfl) (by decide) ?_
      refine pw_istore_n (L' := [(3, .inl 0), (2, .inl (-2)), (0, .inr (some (0, 0, 0))), (1, .inl v1)]) (px_at td_PR_bestOff 11 rfl) rfl (by decide) rfl ?_
      refine pw_iconst (v := 0) (px_at td_PR_bestOff 12 rfl) (by decide) ?_
      refine pw_istore (L' := [(4, .inl 0), (3, .inl 0), (2, .inl (-2)), (0, .inr (some (0, 0, 0))), (1, .inl v1)]) (px_at td_PR_bestOff 13 rfl) (by decide) rfl ?_
      obtain ⟨e7, he7, h⟩ := px_b1_e h
      refine pw_L [(0, .inr (some (0, 0, 0))), (1, .inl v1), (2, .inl (-2)), (3, .inl 0), (4, .inl 0)] [3, 4, 2, 1, 0] rfl ?_
      refine PR_bestOff_L21_l he7 ?_
      refine pw_iload_n 0 (px_at td_PR_bestOff 40 rfl) rfl rfl ?_
      obtain rfl := Option.some.inj h
      exact pw_iret (px_at td_PR_bestOff 41 rfl) rfl (Nat.le_refl 0) (Nat.le_refl 0) hR
    · refine pw_icmp_le 13 (px_at td_PR_bestOff 5 rfl) (by decide) (fun hn => absurd hn hc8) (fun _ => ?_)
      refine pw_L [] [] rfl ?_
      exact PR_bestOff_n11_l h hR
theorem k_PR_bestOff {l : Launch} {ids : List pxI} {σ : pxS} {v1 : Int32} {res : Int32 × pxS} (h : F_PR_bestOff σ v1 = some res) : pm l y_PR_bestOff c_PR_bestOff 6 (some .int) (px_R 8) [.inr (some (0, 0, 0)), .inl v1] ids cG σ (px_r (some (.inl res.1)) ids cG res.2) :=
  pm_ofF (by decide +kernel) (Nat.le_of_ble_eq_true rfl) (e_PR_bestOff h ⟨rfl, rfl, rfl, rfl⟩)
/-! PR_chance -/
def PR_chance_n40 (σ : pxS)  : Option (Int32 × pxS) :=
  some ((-1), σ)
set_option maxRecDepth 100000 in
theorem PR_chance_n40_l {l : Launch} {ids : List pxI} {Rt : Option pxV → List pxI → pxG → pxS → Prop} {σ : pxS}  {res : Int32 × pxS} (h : PR_chance_n40 σ  = some res) (hR : Rt (some (.inl res.1)) ids cG res.2) : pw l (px_R 8) y_PR_chance c_PR_chance 6 (some .int) 40 [] [] ids cG σ 0 0 Rt := by
  unfold PR_chance_n40 at h
  refine pw_iconst (v := (-1)) (px_at td_PR_chance 20 rfl) (by decide) ?_
  obtain rfl := Option.some.inj h
  exact pw_iret (px_at td_PR_chance 21 rfl) rfl (Nat.le_refl 0) (Nat.le_refl 0) hR
def F_PR_chance (σ : pxS) (v1 : Int32) (v2 : Int32) (v3 : Int32) (v4 : Int32) : Option (Int32 × pxS) :=
  (if v1 < (-1) then PR_chance_n40 σ  else (if v2 < 1 then PR_chance_n40 σ  else (if 200 < v2 then PR_chance_n40 σ  else (if v3 < 1 then PR_chance_n40 σ  else (if 9999 < v3 then PR_chance_n40 σ  else (if v4 < 0 then PR_chance_n40 σ  else (if v4 ≤ 2 then px_b1 (F_Bo_copyFrom σ 2 1) fun σ1 =>
  (if 0 ≤ v1 then px_b2 (F_Bo_passByChance σ1 2 v1 v2 v3) fun r2 σ2 =>
  (if v4 = 0 then some (r2, σ2) else (if v4 = 1 then px_b1 (F_Bo_allTrips σ2 2) fun r5 =>
  px_b1 (F_Bo_allTrips σ2 1) fun r6 =>
  some ((r5 - r6), σ2) else px_b1 (F_Bo_goodRails σ2 2) fun r4 =>
  some (r4, σ2))) else px_b2 (F_Bo_passByChance σ1 2 (σ1 (8, (σ1 (0, 0, 0) 6).toNatClampNeg, 14) 7) v2 v3) fun r7 σ7 =>
  (if v4 = 0 then some (r7, σ7) else (if v4 = 1 then px_b1 (F_Bo_allTrips σ7 2) fun r10 =>
  px_b1 (F_Bo_allTrips σ7 1) fun r11 =>
  some ((r10 - r11), σ7) else px_b1 (F_Bo_goodRails σ7 2) fun r9 =>
  some (r9, σ7)))) else PR_chance_n40 σ )))))))
set_option maxRecDepth 100000 in
theorem e_PR_chance {l : Launch} {ids : List pxI} {Rt : Option pxV → List pxI → pxG → pxS → Prop} {σ : pxS} {v1 : Int32} {v2 : Int32} {v3 : Int32} {v4 : Int32} {res : Int32 × pxS} (h : F_PR_chance σ v1 v2 v3 v4 = some res) (hR : Rt (some (.inl res.1)) ids cG res.2) : pw l (px_R 8) y_PR_chance c_PR_chance 6 (some .int) 0 [(0, .inr (some (0, 0, 0))), (1, .inl v1), (2, .inl v2), (3, .inl v3), (4, .inl v4)] [] ids cG σ 0 0 Rt := by
  unfold F_PR_chance at h
  refine pw_iload_n 1 (px_at td_PR_chance 0 rfl) rfl rfl ?_
  refine pw_iconst (v := (-1)) (px_at td_PR_chance 1 rfl) (by decide) ?_
  rcases px_ite h with ⟨hc19, h⟩ | ⟨hc19, h⟩
  · refine pw_icmp_lt 40 (px_at td_PR_chance 2 rfl) (by decide) (fun _ => ?_) (fun hn => absurd hc19 hn)
    refine pw_L [] [] rfl ?_
    exact PR_chance_n40_l h hR
  · refine pw_icmp_lt 40 (px_at td_PR_chance 2 rfl) (by decide) (fun hn => absurd hn hc19) (fun _ => ?_)
    refine pw_iload_n 2 (px_at td_PR_chance 3 rfl) rfl rfl ?_
    refine pw_iconst (v := 1) (px_at td_PR_chance 4 rfl) (by decide) ?_
    rcases px_ite h with ⟨hc18, h⟩ | ⟨hc18, h⟩
    · refine pw_icmp_lt 40 (px_at td_PR_chance 5 rfl) (by decide) (fun _ => ?_) (fun hn => absurd hc18 hn)
      refine pw_L [] [] rfl ?_
      exact PR_chance_n40_l h hR
    · refine pw_icmp_lt 40 (px_at td_PR_chance 5 rfl) (by decide) (fun hn => absurd hn hc18) (fun _ => ?_)
      refine pw_iload_n 2 (px_at td_PR_chance 6 rfl) rfl rfl ?_
      refine pw_sipush (v := 200) (px_at td_PR_chance 7 rfl) (by decide) ?_
      rcases px_ite h with ⟨hc17, h⟩ | ⟨hc17, h⟩
      · refine pw_icmp_gt 40 (px_at td_PR_chance 8 rfl) (by decide) (fun _ => ?_) (fun hn => absurd hc17 hn)
        refine pw_L [] [] rfl ?_
        exact PR_chance_n40_l h hR
      · refine pw_icmp_gt 40 (px_at td_PR_chance 8 rfl) (by decide) (fun hn => absurd hn hc17) (fun _ => ?_)
        refine pw_iload_n 3 (px_at td_PR_chance 9 rfl) rfl rfl ?_
        refine pw_iconst (v := 1) (px_at td_PR_chance 10 rfl) (by decide) ?_
        rcases px_ite h with ⟨hc16, h⟩ | ⟨hc16, h⟩
        · refine pw_icmp_lt 40 (px_at td_PR_chance 11 rfl) (by decide) (fun _ => ?_) (fun hn => absurd hc16 hn)
          refine pw_L [] [] rfl ?_
          exact PR_chance_n40_l h hR
        · refine pw_icmp_lt 40 (px_at td_PR_chance 11 rfl) (by decide) (fun hn => absurd hn hc16) (fun _ => ?_)
          refine pw_iload_n 3 (px_at td_PR_chance 12 rfl) rfl rfl ?_
          refine pw_sipush (v := 9999) (px_at td_PR_chance 13 rfl) (by decide) ?_
          rcases px_ite h with ⟨hc15, h⟩ | ⟨hc15, h⟩
          · refine pw_icmp_gt 40 (px_at td_PR_chance 14 rfl) (by decide) (fun _ => ?_) (fun hn => absurd hc15 hn)
            refine pw_L [] [] rfl ?_
            exact PR_chance_n40_l h hR
          · refine pw_icmp_gt 40 (px_at td_PR_chance 14 rfl) (by decide) (fun hn => absurd hn hc15) (fun _ => ?_)
            refine pw_iload 4 (px_at td_PR_chance 15 rfl) rfl ?_
            rcases px_ite h with ⟨hc14, h⟩ | ⟨hc14, h⟩
            · refine pw_if_lt 40 (px_at td_PR_chance 16 rfl) (by decide) (fun _ => ?_) (fun hn => absurd hc14 hn)
              refine pw_L [] [] rfl ?_
              exact PR_chance_n40_l h hR
            · refine pw_if_lt 40 (px_at td_PR_chance 16 rfl) (by decide) (fun hn => absurd hn hc14) (fun _ => ?_)
              refine pw_iload 4 (px_at td_PR_chance 17 rfl) rfl ?_
              refine pw_iconst (v := 2) (px_at td_PR_chance 18 rfl) (by decide) ?_
              rcases px_ite h with ⟨hc13, h⟩ | ⟨hc13, h⟩
              · refine pw_icmp_le 42 (px_at td_PR_chance 19 rfl) (by decide) (fun _ => ?_) (fun hn => absurd hc13 hn)
                refine pw_aload_n 0 (px_at td_PR_chance 22 rfl) rfl rfl ?_
                refine pw_getf (v := .inr (some (2, 2, 0))) (px_at td_PR_chance 23 rfl) lf_PR_52 rfl rfl rfl ?_
                refine pw_aload_n 0 (px_at td_PR_chance 24 rfl) rfl rfl ?_
                refine pw_getf (v := .inr (some (2, 1, 0))) (px_at td_PR_chance 25 rfl) lf_PR_49 rfl rfl rfl ?_
                obtain ⟨σ1, hk1, h⟩ := px_b1_e h
                refine pw_cV0 (2, 2, 0) [.inr (some (2, 1, 0))] [] (px_at td_PR_chance 26 rfl) lV_PR_273 rfl rfl rfl (Nat.le_of_ble_eq_true rfl) (by decide) (k_Bo_copyFrom hk1) ?_
                refine pw_aload_n 0 (px_at td_PR_chance 27 rfl) rfl rfl ?_
                refine pw_getf (v := .inr (some (2, 2, 0))) (px_at td_PR_chance 28 rfl) lf_PR_52 rfl rfl rfl ?_
                refine pw_iload_n 1 (px_at td_PR_chance 29 rfl) rfl rfl ?_
                rcases px_ite h with ⟨hc12, h⟩ | ⟨hc12, h⟩
                · refine pw_if_ge 74 (px_at td_PR_chance 30 rfl) (by decide) (fun _ => ?_) (fun hn => absurd hc12 hn)
                  refine pw_iload_n 1 (px_at td_PR_chance 37 rfl) rfl rfl ?_
                  refine pw_iload_n 2 (px_at td_PR_chance 38 rfl) rfl rfl ?_
                  refine pw_iload_n 3 (px_at td_PR_chance 39 rfl) rfl rfl ?_
                  obtain ⟨r2, σ2, hk2, h⟩ := px_b2_e h
                  refine pw_cV1 (2, 2, 0) [.inl v1, .inl v2, .inl v3] [] (px_at td_PR_chance 40 rfl) lV_PR_299 rfl rfl rfl (Nat.le_of_ble_eq_true rfl) (by decide) (k_Bo_passByChance hk2) ?_
                  refine pw_istore (L' := [(5, .inl r2), (0, .inr (some (0, 0, 0))), (1, .inl v1), (2, .inl v2), (3, .inl v3), (4, .inl v4)]) (px_at td_PR_chance 41 rfl) (by decide) rfl ?_
                  refine pw_iload 5 (px_at td_PR_chance 42 rfl) rfl ?_
                  rcases px_ite h with ⟨hs3_0, h⟩ | ⟨hs3_0, h⟩
                  · refine pw_look (off := 28) 112 (px_at td_PR_chance 43 rfl) (by decide) (px_look2 (Or.inl ⟨hs3_0, rfl⟩)) (by decide) ?_
                    refine pw_iload 0 (px_at td_PR_chance 44 rfl) rfl ?_
                    obtain rfl := Option.some.inj h
                    exact pw_iret (px_at td_PR_chance 45 rfl) rfl (Nat.le_refl 0) (Nat.le_refl 0) hR
                  · have hd3_0 := trivial
                    rcases px_ite h with ⟨hs3_1, h⟩ | ⟨hs3_1, h⟩
                    · refine pw_look (off := 31) 115 (px_at td_PR_chance 43 rfl) (by decide) (px_look2 (Or.inr (Or.inl ⟨hs3_1, rfl⟩))) (by decide) ?_
                      refine pw_aload_n 1 (px_at td_PR_chance 46 rfl) rfl rfl ?_
                      refine pw_getf (v := .inr (some (2, 2, 0))) (px_at td_PR_chance 47 rfl) lf_PR_52 rfl rfl rfl ?_
                      obtain ⟨r5, hk5, h⟩ := px_b1_e h
                      refine pw_cV1 (2, 2, 0) [] [] (px_at td_PR_chance 48 rfl) lV_PR_267 rfl rfl rfl (Nat.le_of_ble_eq_true rfl) (by decide) (k_Bo_allTrips hk5) ?_
                      refine pw_aload_n 1 (px_at td_PR_chance 49 rfl) rfl rfl ?_
                      refine pw_getf (v := .inr (some (2, 1, 0))) (px_at td_PR_chance 50 rfl) lf_PR_49 rfl rfl rfl ?_
                      obtain ⟨r6, hk6, h⟩ := px_b1_e h
                      refine pw_cV1 (2, 1, 0) [] [.inl r5] (px_at td_PR_chance 51 rfl) lV_PR_267 rfl rfl rfl (Nat.le_of_ble_eq_true rfl) (by decide) (k_Bo_allTrips hk6) ?_
                      refine pw_isub (px_at td_PR_chance 52 rfl) ?_
                      obtain rfl := Option.some.inj h
                      exact pw_iret (px_at td_PR_chance 53 rfl) rfl (Nat.le_refl 0) (Nat.le_refl 0) hR
                    · have hd3_1 := trivial
                      refine pw_look (off := 47) 131 (px_at td_PR_chance 43 rfl) (by decide) (px_look2 (Or.inr (Or.inr ⟨hs3_0, hs3_1, rfl⟩))) (by decide) ?_
                      refine pw_aload_n 1 (px_at td_PR_chance 54 rfl) rfl rfl ?_
                      refine pw_getf (v := .inr (some (2, 2, 0))) (px_at td_PR_chance 55 rfl) lf_PR_52 rfl rfl rfl ?_
                      obtain ⟨r4, hk4, h⟩ := px_b1_e h
                      refine pw_cV1 (2, 2, 0) [] [] (px_at td_PR_chance 56 rfl) lV_PR_213 rfl rfl rfl (Nat.le_of_ble_eq_true rfl) (by decide) (k_Bo_goodRails hk4) ?_
                      obtain rfl := Option.some.inj h
                      exact pw_iret (px_at td_PR_chance 57 rfl) rfl (Nat.le_refl 0) (Nat.le_refl 0) hR
                · refine pw_if_ge 74 (px_at td_PR_chance 30 rfl) (by decide) (fun hn => absurd hn hc12) (fun _ => ?_)
                  refine pw_aload_n 0 (px_at td_PR_chance 31 rfl) rfl rfl ?_
                  refine pw_getf (v := .inr (some (1, (σ1 (0, 0, 0) 6).toNatClampNeg, 0))) (px_at td_PR_chance 32 rfl) lf_PR_31 rfl rfl rfl ?_
                  refine pw_getf (v := .inr (some (8, (σ1 (0, 0, 0) 6).toNatClampNeg, 14))) (px_at td_PR_chance 33 rfl) lf_PR_296 rfl rfl rfl ?_
                  refine pw_bipush (v := 7) (px_at td_PR_chance 34 rfl) (by decide) ?_
                  refine pw_ial (px_at td_PR_chance 35 rfl) rfl (px_inL (by decide) px_z7 (by decide)) px_z7 ?_
                  refine pw_goto 75 (px_at td_PR_chance 36 rfl) (by decide) ?_
                  refine pw_iload_n 2 (px_at td_PR_chance 38 rfl) rfl rfl ?_
                  refine pw_iload_n 3 (px_at td_PR_chance 39 rfl) rfl rfl ?_
                  obtain ⟨r7, σ7, hk7, h⟩ := px_b2_e h
                  refine pw_cV1 (2, 2, 0) [.inl (σ1 (8, (σ1 (0, 0, 0) 6).toNatClampNeg, 14) 7), .inl v2, .inl v3] [] (px_at td_PR_chance 40 rfl) lV_PR_299 rfl rfl rfl (Nat.le_of_ble_eq_true rfl) (by decide) (k_Bo_passByChance hk7) ?_
                  refine pw_istore (L' := [(5, .inl r7), (0, .inr (some (0, 0, 0))), (1, .inl v1), (2, .inl v2), (3, .inl v3), (4, .inl v4)]) (px_at td_PR_chance 41 rfl) (by decide) rfl ?_
                  refine pw_iload 5 (px_at td_PR_chance 42 rfl) rfl ?_
                  rcases px_ite h with ⟨hs8_0, h⟩ | ⟨hs8_0, h⟩
                  · refine pw_look (off := 28) 112 (px_at td_PR_chance 43 rfl) (by decide) (px_look2 (Or.inl ⟨hs8_0, rfl⟩)) (by decide) ?_
                    refine pw_iload 0 (px_at td_PR_chance 44 rfl) rfl ?_
                    obtain rfl := Option.some.inj h
                    exact pw_iret (px_at td_PR_chance 45 rfl) rfl (Nat.le_refl 0) (Nat.le_refl 0) hR
                  · have hd8_0 := trivial
                    rcases px_ite h with ⟨hs8_1, h⟩ | ⟨hs8_1, h⟩
                    · refine pw_look (off := 31) 115 (px_at td_PR_chance 43 rfl) (by decide) (px_look2 (Or.inr (Or.inl ⟨hs8_1, rfl⟩))) (by decide) ?_
                      refine pw_aload_n 1 (px_at td_PR_chance 46 rfl) rfl rfl ?_
                      refine pw_getf (v := .inr (some (2, 2, 0))) (px_at td_PR_chance 47 rfl) lf_PR_52 rfl rfl rfl ?_
                      obtain ⟨r10, hk10, h⟩ := px_b1_e h
                      refine pw_cV1 (2, 2, 0) [] [] (px_at td_PR_chance 48 rfl) lV_PR_267 rfl rfl rfl (Nat.le_of_ble_eq_true rfl) (by decide) (k_Bo_allTrips hk10) ?_
                      refine pw_aload_n 1 (px_at td_PR_chance 49 rfl) rfl rfl ?_
                      refine pw_getf (v := .inr (some (2, 1, 0))) (px_at td_PR_chance 50 rfl) lf_PR_49 rfl rfl rfl ?_
                      obtain ⟨r11, hk11, h⟩ := px_b1_e h
                      refine pw_cV1 (2, 1, 0) [] [.inl r10] (px_at td_PR_chance 51 rfl) lV_PR_267 rfl rfl rfl (Nat.le_of_ble_eq_true rfl) (by decide) (k_Bo_allTrips hk11) ?_
                      refine pw_isub (px_at td_PR_chance 52 rfl) ?_
                      obtain rfl := Option.some.inj h
                      exact pw_iret (px_at td_PR_chance 53 rfl) rfl (Nat.le_refl 0) (Nat.le_refl 0) hR
                    · have hd8_1 := trivial
                      refine pw_look (off := 47) 131 (px_at td_PR_chance 43 rfl) (by decide) (px_look2 (Or.inr (Or.inr ⟨hs8_0, hs8_1, rfl⟩))) (by decide) ?_
                      refine pw_aload_n 1 (px_at td_PR_chance 54 rfl) rfl rfl ?_
                      refine pw_getf (v := .inr (some (2, 2, 0))) (px_at td_PR_chance 55 rfl) lf_PR_52 rfl rfl rfl ?_
                      obtain ⟨r9, hk9, h⟩ := px_b1_e h
                      refine pw_cV1 (2, 2, 0) [] [] (px_at td_PR_chance 56 rfl) lV_PR_213 rfl rfl rfl (Nat.le_of_ble_eq_true rfl) (by decide) (k_Bo_goodRails hk9) ?_
                      obtain rfl := Option.some.inj h
                      exact pw_iret (px_at td_PR_chance 57 rfl) rfl (Nat.le_refl 0) (Nat.le_refl 0) hR
              · refine pw_icmp_le 42 (px_at td_PR_chance 19 rfl) (by decide) (fun hn => absurd hn hc13) (fun _ => ?_)
                refine pw_L [] [] rfl ?_
                exact PR_chance_n40_l h hR
theorem k_PR_chance {l : Launch} {ids : List pxI} {σ : pxS} {v1 : Int32} {v2 : Int32} {v3 : Int32} {v4 : Int32} {res : Int32 × pxS} (h : F_PR_chance σ v1 v2 v3 v4 = some res) : pm l y_PR_chance c_PR_chance 6 (some .int) (px_R 8) [.inr (some (0, 0, 0)), .inl v1, .inl v2, .inl v3, .inl v4] ids cG σ (px_r (some (.inl res.1)) ids cG res.2) :=
  pm_ofF (by decide +kernel) (Nat.le_of_ble_eq_true rfl) (e_PR_chance h ⟨rfl, rfl, rfl, rfl⟩)
/-! PR_undo -/
def F_PR_undo (σ : pxS)  : Option (Int32 × pxS) :=
  (if (σ (0, 0, 0) 12) = 0 then some ((-1), σ) else px_l (px_up σ (0, 0, 0) 12 ((σ (0, 0, 0) 12) - 1)) fun σ1 =>
  px_gd (((σ1 (0, 0, 0) 11) + (σ1 (0, 0, 0) 12)) - ((σ1 (0, 0, 0) 11) + (σ1 (0, 0, 0) 12)) / 20 * 20) 20 (px_b1 (F_Bo_copyFrom σ1 1 ((((σ1 (0, 0, 0) 11) + (σ1 (0, 0, 0) 12)) - ((σ1 (0, 0, 0) 11) + (σ1 (0, 0, 0) 12)) / 20 * 20).toNatClampNeg + 3)) fun σ3 =>
  some ((σ3 (0, 0, 0) 12), σ3)))
set_option maxRecDepth 100000 in
theorem e_PR_undo {l : Launch} {ids : List pxI} {Rt : Option pxV → List pxI → pxG → pxS → Prop} {σ : pxS}  {res : Int32 × pxS} (h : F_PR_undo σ  = some res) (hR : Rt (some (.inl res.1)) ids cG res.2) : pw l (px_R 3) y_PR_undo c_PR_undo 1 (some .int) 0 [(0, .inr (some (0, 0, 0)))] [] ids cG σ 0 0 Rt := by
  unfold F_PR_undo at h
  refine pw_aload_n 0 (px_at td_PR_undo 0 rfl) rfl rfl ?_
  refine pw_getf (v := .inl (σ (0, 0, 0) 12)) (px_at td_PR_undo 1 rfl) lf_PR_270 rfl rfl rfl ?_
  rcases px_ite h with ⟨hc4, h⟩ | ⟨hc4, h⟩
  · refine pw_if_ne 9 (px_at td_PR_undo 2 rfl) (by decide) (fun hn => absurd hc4 hn) (fun _ => ?_)
    refine pw_iconst (v := (-1)) (px_at td_PR_undo 3 rfl) (by decide) ?_
    obtain rfl := Option.some.inj h
    exact pw_iret (px_at td_PR_undo 4 rfl) rfl (Nat.le_refl 0) (Nat.le_refl 0) hR
  · refine pw_if_ne 9 (px_at td_PR_undo 2 rfl) (by decide) (fun _ => ?_) (fun hn => absurd hn hc4)
    refine pw_aload_n 0 (px_at td_PR_undo 5 rfl) rfl rfl ?_
    refine pw_dup (px_at td_PR_undo 6 rfl) ?_
    refine pw_getf (v := .inl (σ (0, 0, 0) 12)) (px_at td_PR_undo 7 rfl) lf_PR_270 rfl rfl rfl ?_
    refine pw_iconst (v := 1) (px_at td_PR_undo 8 rfl) (by decide) ?_
    refine pw_isub (px_at td_PR_undo 9 rfl) ?_
    obtain ⟨σ1, hσ1, h⟩ := px_l_e h
    refine pw_puti (px_at td_PR_undo 10 rfl) lw_PR_270 rfl rfl (pw_s hσ1 ?_)
    refine pw_aload_n 0 (px_at td_PR_undo 11 rfl) rfl rfl ?_
    refine pw_getf (v := .inr (some (2, 1, 0))) (px_at td_PR_undo 12 rfl) lf_PR_49 rfl rfl rfl ?_
    refine pw_aload_n 0 (px_at td_PR_undo 13 rfl) rfl rfl ?_
    refine pw_getf (v := .inr (some (7, 0, 0))) (px_at td_PR_undo 14 rfl) lf_PR_24 rfl rfl rfl ?_
    refine pw_aload_n 0 (px_at td_PR_undo 15 rfl) rfl rfl ?_
    refine pw_getf (v := .inl (σ1 (0, 0, 0) 11)) (px_at td_PR_undo 16 rfl) lf_PR_303 rfl rfl rfl ?_
    refine pw_aload_n 0 (px_at td_PR_undo 17 rfl) rfl rfl ?_
    refine pw_getf (v := .inl (σ1 (0, 0, 0) 12)) (px_at td_PR_undo 18 rfl) lf_PR_270 rfl rfl rfl ?_
    refine pw_iadd (px_at td_PR_undo 19 rfl) ?_
    refine pw_bipush (v := 20) (px_at td_PR_undo 20 rfl) (by decide) ?_
    refine pw_irem (px_at td_PR_undo 21 rfl) (by decide) ?_
    obtain ⟨hi2, h⟩ := px_gd_e h
    refine pw_aald (r := (2, (((σ1 (0, 0, 0) 11) + (σ1 (0, 0, 0) 12)) - ((σ1 (0, 0, 0) 11) + (σ1 (0, 0, 0) 12)) / 20 * 20).toNatClampNeg + 3, 0)) (px_at td_PR_undo 22 rfl) rfl (fun _ => rfl) hi2 rfl ?_
    obtain ⟨σ3, hk3, h⟩ := px_b1_e h
    refine pw_cV0 (2, 1, 0) [.inr (some (2, (((σ1 (0, 0, 0) 11) + (σ1 (0, 0, 0) 12)) - ((σ1 (0, 0, 0) 11) + (σ1 (0, 0, 0) 12)) / 20 * 20).toNatClampNeg + 3, 0))] [] (px_at td_PR_undo 23 rfl) lV_PR_273 rfl rfl rfl (Nat.le_of_ble_eq_true rfl) (by decide) (k_Bo_copyFrom hk3) ?_
    refine pw_aload_n 0 (px_at td_PR_undo 24 rfl) rfl rfl ?_
    refine pw_getf (v := .inl (σ3 (0, 0, 0) 12)) (px_at td_PR_undo 25 rfl) lf_PR_270 rfl rfl rfl ?_
    obtain rfl := Option.some.inj h
    exact pw_iret (px_at td_PR_undo 26 rfl) rfl (Nat.le_refl 0) (Nat.le_refl 0) hR
theorem k_PR_undo {l : Launch} {ids : List pxI} {σ : pxS}  {res : Int32 × pxS} (h : F_PR_undo σ  = some res) : pm l y_PR_undo c_PR_undo 1 (some .int) (px_R 3) [.inr (some (0, 0, 0))] ids cG σ (px_r (some (.inl res.1)) ids cG res.2) :=
  pm_ofF (by decide +kernel) (Nat.le_of_ble_eq_true rfl) (e_PR_undo h ⟨rfl, rfl, rfl, rfl⟩)
/-! PR_keep -/
def F_PR_keep (σ : pxS)  : Option (Int32 × pxS) :=
  px_b1 (F_Bo_copyFrom σ 0 1) fun σ1 =>
  px_l (px_up σ1 (0, 0, 0) 10 1) fun σ2 =>
  some ((σ2 (2, 1, 0) 5), σ2)
set_option maxRecDepth 100000 in
theorem e_PR_keep {l : Launch} {ids : List pxI} {Rt : Option pxV → List pxI → pxG → pxS → Prop} {σ : pxS}  {res : Int32 × pxS} (h : F_PR_keep σ  = some res) (hR : Rt (some (.inl res.1)) ids cG res.2) : pw l (px_R 3) y_PR_keep c_PR_keep 1 (some .int) 0 [(0, .inr (some (0, 0, 0)))] [] ids cG σ 0 0 Rt := by
  unfold F_PR_keep at h
  refine pw_aload_n 0 (px_at td_PR_keep 0 rfl) rfl rfl ?_
  refine pw_getf (v := .inr (some (2, 0, 0))) (px_at td_PR_keep 1 rfl) lf_PR_45 rfl rfl rfl ?_
  refine pw_aload_n 0 (px_at td_PR_keep 2 rfl) rfl rfl ?_
  refine pw_getf (v := .inr (some (2, 1, 0))) (px_at td_PR_keep 3 rfl) lf_PR_49 rfl rfl rfl ?_
  obtain ⟨σ1, hk1, h⟩ := px_b1_e h
  refine pw_cV0 (2, 0, 0) [.inr (some (2, 1, 0))] [] (px_at td_PR_keep 4 rfl) lV_PR_273 rfl rfl rfl (Nat.le_of_ble_eq_true rfl) (by decide) (k_Bo_copyFrom hk1) ?_
  refine pw_aload_n 0 (px_at td_PR_keep 5 rfl) rfl rfl ?_
  refine pw_iconst (v := 1) (px_at td_PR_keep 6 rfl) (by decide) ?_
  obtain ⟨σ2, hσ2, h⟩ := px_l_e h
  refine pw_putz (px_at td_PR_keep 7 rfl) lw_PR_82 rfl rfl (by decide) (pw_s hσ2 ?_)
  refine pw_aload_n 0 (px_at td_PR_keep 8 rfl) rfl rfl ?_
  refine pw_getf (v := .inr (some (2, 1, 0))) (px_at td_PR_keep 9 rfl) lf_PR_49 rfl rfl rfl ?_
  refine pw_getf (v := .inl (σ2 (2, 1, 0) 5)) (px_at td_PR_keep 10 rfl) lf_PR_92 rfl rfl rfl ?_
  obtain rfl := Option.some.inj h
  exact pw_iret (px_at td_PR_keep 11 rfl) rfl (Nat.le_refl 0) (Nat.le_refl 0) hR
theorem k_PR_keep {l : Launch} {ids : List pxI} {σ : pxS}  {res : Int32 × pxS} (h : F_PR_keep σ  = some res) : pm l y_PR_keep c_PR_keep 1 (some .int) (px_R 3) [.inr (some (0, 0, 0))] ids cG σ (px_r (some (.inl res.1)) ids cG res.2) :=
  pm_ofF (by decide +kernel) (Nat.le_of_ble_eq_true rfl) (e_PR_keep h ⟨rfl, rfl, rfl, rfl⟩)
/-! PR_back -/
def F_PR_back (σ : pxS)  : Option (Int32 × pxS) :=
  (if (σ (0, 0, 0) 10) = 0 then some ((-1), σ) else px_b1 (F_Bo_copyFrom σ 1 0) fun σ1 =>
  px_b1 (F_PR_forgetPast σ1 ) fun σ2 =>
  some ((σ2 (2, 1, 0) 5), σ2))
set_option maxRecDepth 100000 in
theorem e_PR_back {l : Launch} {ids : List pxI} {Rt : Option pxV → List pxI → pxG → pxS → Prop} {σ : pxS}  {res : Int32 × pxS} (h : F_PR_back σ  = some res) (hR : Rt (some (.inl res.1)) ids cG res.2) : pw l (px_R 3) y_PR_back c_PR_back 1 (some .int) 0 [(0, .inr (some (0, 0, 0)))] [] ids cG σ 0 0 Rt := by
  unfold F_PR_back at h
  refine pw_aload_n 0 (px_at td_PR_back 0 rfl) rfl rfl ?_
  refine pw_getf (v := .inl (σ (0, 0, 0) 10)) (px_at td_PR_back 1 rfl) lf_PR_82 rfl rfl rfl ?_
  rcases px_ite h with ⟨hc3, h⟩ | ⟨hc3, h⟩
  · refine pw_if_ne 9 (px_at td_PR_back 2 rfl) (by decide) (fun hn => absurd hc3 hn) (fun _ => ?_)
    refine pw_iconst (v := (-1)) (px_at td_PR_back 3 rfl) (by decide) ?_
    obtain rfl := Option.some.inj h
    exact pw_iret (px_at td_PR_back 4 rfl) rfl (Nat.le_refl 0) (Nat.le_refl 0) hR
  · refine pw_if_ne 9 (px_at td_PR_back 2 rfl) (by decide) (fun _ => ?_) (fun hn => absurd hn hc3)
    refine pw_aload_n 0 (px_at td_PR_back 5 rfl) rfl rfl ?_
    refine pw_getf (v := .inr (some (2, 1, 0))) (px_at td_PR_back 6 rfl) lf_PR_49 rfl rfl rfl ?_
    refine pw_aload_n 0 (px_at td_PR_back 7 rfl) rfl rfl ?_
    refine pw_getf (v := .inr (some (2, 0, 0))) (px_at td_PR_back 8 rfl) lf_PR_45 rfl rfl rfl ?_
    obtain ⟨σ1, hk1, h⟩ := px_b1_e h
    refine pw_cV0 (2, 1, 0) [.inr (some (2, 0, 0))] [] (px_at td_PR_back 9 rfl) lV_PR_273 rfl rfl rfl (Nat.le_of_ble_eq_true rfl) (by decide) (k_Bo_copyFrom hk1) ?_
    refine pw_aload_n 0 (px_at td_PR_back 10 rfl) rfl rfl ?_
    obtain ⟨σ2, hk2, h⟩ := px_b1_e h
    refine pw_cV0 (0, 0, 0) [] [] (px_at td_PR_back 11 rfl) lV_PR_86 rfl rfl rfl (Nat.le_of_ble_eq_true rfl) (by decide) (k_PR_forgetPast hk2) ?_
    refine pw_aload_n 0 (px_at td_PR_back 12 rfl) rfl rfl ?_
    refine pw_getf (v := .inr (some (2, 1, 0))) (px_at td_PR_back 13 rfl) lf_PR_49 rfl rfl rfl ?_
    refine pw_getf (v := .inl (σ2 (2, 1, 0) 5)) (px_at td_PR_back 14 rfl) lf_PR_92 rfl rfl rfl ?_
    obtain rfl := Option.some.inj h
    exact pw_iret (px_at td_PR_back 15 rfl) rfl (Nat.le_refl 0) (Nat.le_refl 0) hR
theorem k_PR_back {l : Launch} {ids : List pxI} {σ : pxS}  {res : Int32 × pxS} (h : F_PR_back σ  = some res) : pm l y_PR_back c_PR_back 1 (some .int) (px_R 3) [.inr (some (0, 0, 0))] ids cG σ (px_r (some (.inl res.1)) ids cG res.2) :=
  pm_ofF (by decide +kernel) (Nat.le_of_ble_eq_true rfl) (e_PR_back h ⟨rfl, rfl, rfl, rfl⟩)
