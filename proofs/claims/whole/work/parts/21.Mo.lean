/-! Mo_thrown -/
def F_Mo_thrown (σ : pxS)  : Option (Int32) :=
  some ((σ (0, 0, 0) 0))
set_option maxRecDepth 100000 in
theorem e_Mo_thrown {l : Launch} {ids : List pxI} {Rt : Option pxV → List pxI → pxG → pxS → Prop} {σ : pxS}  {res : Int32} (h : F_Mo_thrown σ  = some res) (hR : Rt (some (.inl res)) ids mG σ) : pw l (px_R 1) y_Mo_thrown c_Mo_thrown 1 (some .int) 0 [(0, .inr (some (0, 0, 0)))] [] ids mG σ 0 0 Rt := by
  unfold F_Mo_thrown at h
  refine pw_aload_n 0 (px_at td_Mo_thrown 0 rfl) rfl rfl ?_
  refine pw_getf (v := .inl (σ (0, 0, 0) 0)) (px_at td_Mo_thrown 1 rfl) lf_Mo_99 rfl rfl rfl ?_
  obtain rfl := Option.some.inj h
  exact pw_iret (px_at td_Mo_thrown 2 rfl) rfl (Nat.le_refl 0) (Nat.le_refl 0) hR
theorem k_Mo_thrown {l : Launch} {ids : List pxI} {σ : pxS}  {res : Int32} (h : F_Mo_thrown σ  = some res) : pm l y_Mo_thrown c_Mo_thrown 1 (some .int) (px_R 1) [.inr (some (0, 0, 0))] ids mG σ (px_r (some (.inl res)) ids mG σ) :=
  pm_ofF (by decide +kernel) (Nat.le_of_ble_eq_true rfl) (e_Mo_thrown h ⟨rfl, rfl, rfl, rfl⟩)
/-! Mo_feed -/
def Mo_feed_n20 (σ : pxS) (v1 : Int32) (v2 : Int32) (v3 : Int32) (v4 : Int32) (v5 : Int32) (v6 : Int32) : Option ((Int32 × pxS) ⊕ (pxS)) :=
  (if 20 ≤ v6 then some (.inr σ) else (if 4 ≤ v6 then (if 8 ≤ v6 then (if 12 ≤ v6 then (if 16 ≤ v6 then px_gd ((σ (0, 0, 0) 2) + v6) 700 (px_l (px_up σ (1, 1, 0) ((σ (0, 0, 0) 2) + v6).toNatClampNeg ((v5 >>> ((24 - (8 * (v6 - v6 / 4 * 4))) &&& 31)) &&& 255)) fun σ3 =>
  some (.inl ((v6 + 1), σ3))) else px_gd ((σ (0, 0, 0) 2) + v6) 700 (px_l (px_up σ (1, 1, 0) ((σ (0, 0, 0) 2) + v6).toNatClampNeg ((v4 >>> ((24 - (8 * (v6 - v6 / 4 * 4))) &&& 31)) &&& 255)) fun σ5 =>
  some (.inl ((v6 + 1), σ5)))) else px_gd ((σ (0, 0, 0) 2) + v6) 700 (px_l (px_up σ (1, 1, 0) ((σ (0, 0, 0) 2) + v6).toNatClampNeg ((v3 >>> ((24 - (8 * (v6 - v6 / 4 * 4))) &&& 31)) &&& 255)) fun σ8 =>
  some (.inl ((v6 + 1), σ8)))) else px_gd ((σ (0, 0, 0) 2) + v6) 700 (px_l (px_up σ (1, 1, 0) ((σ (0, 0, 0) 2) + v6).toNatClampNeg ((v2 >>> ((24 - (8 * (v6 - v6 / 4 * 4))) &&& 31)) &&& 255)) fun σ11 =>
  some (.inl ((v6 + 1), σ11)))) else px_gd ((σ (0, 0, 0) 2) + v6) 700 (px_l (px_up σ (1, 1, 0) ((σ (0, 0, 0) 2) + v6).toNatClampNeg ((v1 >>> ((24 - (8 * (v6 - v6 / 4 * 4))) &&& 31)) &&& 255)) fun σ14 =>
  some (.inl ((v6 + 1), σ14)))))
set_option maxRecDepth 100000 in
theorem Mo_feed_n20_l {l : Launch} {ids : List pxI} {Rt : Option pxV → List pxI → pxG → pxS → Prop} {σ : pxS} {v1 : Int32} {v2 : Int32} {v3 : Int32} {v4 : Int32} {v5 : Int32} {v6 : Int32} {o : (Int32 × pxS) ⊕ (pxS)} (h : Mo_feed_n20 σ v1 v2 v3 v4 v5 v6 = some o) (hC : ∀ s, o = .inl s → pw l (px_R 1) y_Mo_feed c_Mo_feed 8 (some .int) 20 [(0, .inr (some (0, 0, 0))), (1, .inl v1), (2, .inl v2), (3, .inl v3), (4, .inl v4), (5, .inl v5), (6, .inl s.1)] [] ids mG s.2 0 0 Rt) (hX0 : ∀ e, o = .inr e → pw l (px_R 1) y_Mo_feed c_Mo_feed 8 (some .int) 110 [(0, .inr (some (0, 0, 0)))] [] ids mG e 0 0 Rt) : pw l (px_R 1) y_Mo_feed c_Mo_feed 8 (some .int) 20 [(0, .inr (some (0, 0, 0))), (1, .inl v1), (2, .inl v2), (3, .inl v3), (4, .inl v4), (5, .inl v5), (6, .inl v6)] [] ids mG σ 0 0 Rt := by
  unfold Mo_feed_n20 at h
  refine pw_iload 6 (px_at td_Mo_feed 11 rfl) rfl ?_
  refine pw_bipush (v := 20) (px_at td_Mo_feed 12 rfl) (by decide) ?_
  rcases px_ite h with ⟨hc16, h⟩ | ⟨hc16, h⟩
  · refine pw_icmp_ge 110 (px_at td_Mo_feed 13 rfl) (by decide) (fun _ => ?_) (fun hn => absurd hc16 hn)
    refine pw_L [(0, .inr (some (0, 0, 0)))] [0] rfl ?_
    exact hX0 σ (Option.some.inj h).symm
  · refine pw_icmp_ge 110 (px_at td_Mo_feed 13 rfl) (by decide) (fun hn => absurd hn hc16) (fun _ => ?_)
    refine pw_iload 6 (px_at td_Mo_feed 14 rfl) rfl ?_
    refine pw_iconst (v := 4) (px_at td_Mo_feed 15 rfl) (by decide) ?_
    rcases px_ite h with ⟨hc15, h⟩ | ⟨hc15, h⟩
    · refine pw_icmp_ge 37 (px_at td_Mo_feed 16 rfl) (by decide) (fun _ => ?_) (fun hn => absurd hc15 hn)
      refine pw_iload 6 (px_at td_Mo_feed 19 rfl) rfl ?_
      refine pw_bipush (v := 8) (px_at td_Mo_feed 20 rfl) (by decide) ?_
      rcases px_ite h with ⟨hc12, h⟩ | ⟨hc12, h⟩
      · refine pw_icmp_ge 48 (px_at td_Mo_feed 21 rfl) (by decide) (fun _ => ?_) (fun hn => absurd hc12 hn)
        refine pw_iload 6 (px_at td_Mo_feed 24 rfl) rfl ?_
        refine pw_bipush (v := 12) (px_at td_Mo_feed 25 rfl) (by decide) ?_
        rcases px_ite h with ⟨hc9, h⟩ | ⟨hc9, h⟩
        · refine pw_icmp_ge 59 (px_at td_Mo_feed 26 rfl) (by decide) (fun _ => ?_) (fun hn => absurd hc9 hn)
          refine pw_iload 6 (px_at td_Mo_feed 29 rfl) rfl ?_
          refine pw_bipush (v := 16) (px_at td_Mo_feed 30 rfl) (by decide) ?_
          rcases px_ite h with ⟨hc6, h⟩ | ⟨hc6, h⟩
          · refine pw_icmp_ge 71 (px_at td_Mo_feed 31 rfl) (by decide) (fun _ => ?_) (fun hn => absurd hc6 hn)
            refine pw_iload 5 (px_at td_Mo_feed 34 rfl) rfl ?_
            refine pw_istore (L' := [(7, .inl v5), (0, .inr (some (0, 0, 0))), (1, .inl v1), (2, .inl v2), (3, .inl v3), (4, .inl v4), (5, .inl v5), (6, .inl v6)]) (px_at td_Mo_feed 35 rfl) (by decide) rfl ?_
            refine pw_aload_n 1 (px_at td_Mo_feed 36 rfl) rfl rfl ?_
            refine pw_getf (v := .inr (some (1, 1, 0))) (px_at td_Mo_feed 37 rfl) lf_Mo_7 rfl rfl rfl ?_
            refine pw_aload_n 1 (px_at td_Mo_feed 38 rfl) rfl rfl ?_
            refine pw_getf (v := .inl (σ (0, 0, 0) 2)) (px_at td_Mo_feed 39 rfl) lf_Mo_102 rfl rfl rfl ?_
            refine pw_iload 7 (px_at td_Mo_feed 40 rfl) rfl ?_
            refine pw_iadd (px_at td_Mo_feed 41 rfl) ?_
            refine pw_iload 0 (px_at td_Mo_feed 42 rfl) rfl ?_
            refine pw_bipush (v := 24) (px_at td_Mo_feed 43 rfl) (by decide) ?_
            refine pw_bipush (v := 8) (px_at td_Mo_feed 44 rfl) (by decide) ?_
            refine pw_iload 7 (px_at td_Mo_feed 45 rfl) rfl ?_
            refine pw_iconst (v := 4) (px_at td_Mo_feed 46 rfl) (by decide) ?_
            refine pw_irem (px_at td_Mo_feed 47 rfl) (by decide) ?_
            refine pw_imul (px_at td_Mo_feed 48 rfl) ?_
            refine pw_isub (px_at td_Mo_feed 49 rfl) ?_
            refine pw_ishr (px_at td_Mo_feed 50 rfl) ?_
            refine pw_sipush (v := 255) (px_at td_Mo_feed 51 rfl) (by decide) ?_
            refine pw_iand (px_at td_Mo_feed 52 rfl) ?_
            obtain ⟨hi2, h⟩ := px_gd_e h
            obtain ⟨σ3, hσ3, h⟩ := px_l_e h
            refine pw_ias (px_at td_Mo_feed 53 rfl) rfl hi2 rfl hσ3 ?_
            refine pw_iinc (q := 7) (v := (v6 + 1)) (L' := [(6, .inl (v6 + 1)), (7, .inl v5), (0, .inr (some (0, 0, 0))), (1, .inl v1), (2, .inl v2), (3, .inl v3), (4, .inl v4), (5, .inl v5)]) (px_at td_Mo_feed 54 rfl) rfl rfl (by decide) rfl ?_
            refine pw_goto 20 (px_at td_Mo_feed 55 rfl) (by decide) ?_
            refine pw_L [(0, .inr (some (0, 0, 0))), (1, .inl v1), (2, .inl v2), (3, .inl v3), (4, .inl v4), (5, .inl v5), (6, .inl (v6 + 1))] [2, 3, 4, 5, 6, 7, 0] rfl ?_
            exact hC ((v6 + 1), σ3) (Option.some.inj h).symm
          · refine pw_icmp_ge 71 (px_at td_Mo_feed 31 rfl) (by decide) (fun hn => absurd hn hc6) (fun _ => ?_)
            refine pw_iload 4 (px_at td_Mo_feed 32 rfl) rfl ?_
            refine pw_goto 73 (px_at td_Mo_feed 33 rfl) (by decide) ?_
            refine pw_istore (L' := [(7, .inl v4), (0, .inr (some (0, 0, 0))), (1, .inl v1), (2, .inl v2), (3, .inl v3), (4, .inl v4), (5, .inl v5), (6, .inl v6)]) (px_at td_Mo_feed 35 rfl) (by decide) rfl ?_
            refine pw_aload_n 1 (px_at td_Mo_feed 36 rfl) rfl rfl ?_
            refine pw_getf (v := .inr (some (1, 1, 0))) (px_at td_Mo_feed 37 rfl) lf_Mo_7 rfl rfl rfl ?_
            refine pw_aload_n 1 (px_at td_Mo_feed 38 rfl) rfl rfl ?_
            refine pw_getf (v := .inl (σ (0, 0, 0) 2)) (px_at td_Mo_feed 39 rfl) lf_Mo_102 rfl rfl rfl ?_
            refine pw_iload 7 (px_at td_Mo_feed 40 rfl) rfl ?_
            refine pw_iadd (px_at td_Mo_feed 41 rfl) ?_
            refine pw_iload 0 (px_at td_Mo_feed 42 rfl) rfl ?_
            refine pw_bipush (v := 24) (px_at td_Mo_feed 43 rfl) (by decide) ?_
            refine pw_bipush (v := 8) (px_at td_Mo_feed 44 rfl) (by decide) ?_
            refine pw_iload 7 (px_at td_Mo_feed 45 rfl) rfl ?_
            refine pw_iconst (v := 4) (px_at td_Mo_feed 46 rfl) (by decide) ?_
            refine pw_irem (px_at td_Mo_feed 47 rfl) (by decide) ?_
            refine pw_imul (px_at td_Mo_feed 48 rfl) ?_
            refine pw_isub (px_at td_Mo_feed 49 rfl) ?_
            refine pw_ishr (px_at td_Mo_feed 50 rfl) ?_
            refine pw_sipush (v := 255) (px_at td_Mo_feed 51 rfl) (by decide) ?_
            refine pw_iand (px_at td_Mo_feed 52 rfl) ?_
            obtain ⟨hi4, h⟩ := px_gd_e h
            obtain ⟨σ5, hσ5, h⟩ := px_l_e h
            refine pw_ias (px_at td_Mo_feed 53 rfl) rfl hi4 rfl hσ5 ?_
            refine pw_iinc (q := 7) (v := (v6 + 1)) (L' := [(6, .inl (v6 + 1)), (7, .inl v4), (0, .inr (some (0, 0, 0))), (1, .inl v1), (2, .inl v2), (3, .inl v3), (4, .inl v4), (5, .inl v5)]) (px_at td_Mo_feed 54 rfl) rfl rfl (by decide) rfl ?_
            refine pw_goto 20 (px_at td_Mo_feed 55 rfl) (by decide) ?_
            refine pw_L [(0, .inr (some (0, 0, 0))), (1, .inl v1), (2, .inl v2), (3, .inl v3), (4, .inl v4), (5, .inl v5), (6, .inl (v6 + 1))] [2, 3, 4, 5, 6, 7, 0] rfl ?_
            exact hC ((v6 + 1), σ5) (Option.some.inj h).symm
        · refine pw_icmp_ge 59 (px_at td_Mo_feed 26 rfl) (by decide) (fun hn => absurd hn hc9) (fun _ => ?_)
          refine pw_iload_n 3 (px_at td_Mo_feed 27 rfl) rfl rfl ?_
          refine pw_goto 73 (px_at td_Mo_feed 28 rfl) (by decide) ?_
          refine pw_istore (L' := [(7, .inl v3), (0, .inr (some (0, 0, 0))), (1, .inl v1), (2, .inl v2), (3, .inl v3), (4, .inl v4), (5, .inl v5), (6, .inl v6)]) (px_at td_Mo_feed 35 rfl) (by decide) rfl ?_
          refine pw_aload_n 1 (px_at td_Mo_feed 36 rfl) rfl rfl ?_
          refine pw_getf (v := .inr (some (1, 1, 0))) (px_at td_Mo_feed 37 rfl) lf_Mo_7 rfl rfl rfl ?_
          refine pw_aload_n 1 (px_at td_Mo_feed 38 rfl) rfl rfl ?_
          refine pw_getf (v := .inl (σ (0, 0, 0) 2)) (px_at td_Mo_feed 39 rfl) lf_Mo_102 rfl rfl rfl ?_
          refine pw_iload 7 (px_at td_Mo_feed 40 rfl) rfl ?_
          refine pw_iadd (px_at td_Mo_feed 41 rfl) ?_
          refine pw_iload 0 (px_at td_Mo_feed 42 rfl) rfl ?_
          refine pw_bipush (v := 24) (px_at td_Mo_feed 43 rfl) (by decide) ?_
          refine pw_bipush (v := 8) (px_at td_Mo_feed 44 rfl) (by decide) ?_
          refine pw_iload 7 (px_at td_Mo_feed 45 rfl) rfl ?_
          refine pw_iconst (v := 4) (px_at td_Mo_feed 46 rfl) (by decide) ?_
          refine pw_irem (px_at td_Mo_feed 47 rfl) (by decide) ?_
          refine pw_imul (px_at td_Mo_feed 48 rfl) ?_
          refine pw_isub (px_at td_Mo_feed 49 rfl) ?_
          refine pw_ishr (px_at td_Mo_feed 50 rfl) ?_
          refine pw_sipush (v := 255) (px_at td_Mo_feed 51 rfl) (by decide) ?_
          refine pw_iand (px_at td_Mo_feed 52 rfl) ?_
          obtain ⟨hi7, h⟩ := px_gd_e h
          obtain ⟨σ8, hσ8, h⟩ := px_l_e h
          refine pw_ias (px_at td_Mo_feed 53 rfl) rfl hi7 rfl hσ8 ?_
          refine pw_iinc (q := 7) (v := (v6 + 1)) (L' := [(6, .inl (v6 + 1)), (7, .inl v3), (0, .inr (some (0, 0, 0))), (1, .inl v1), (2, .inl v2), (3, .inl v3), (4, .inl v4), (5, .inl v5)]) (px_at td_Mo_feed 54 rfl) rfl rfl (by decide) rfl ?_
          refine pw_goto 20 (px_at td_Mo_feed 55 rfl) (by decide) ?_
          refine pw_L [(0, .inr (some (0, 0, 0))), (1, .inl v1), (2, .inl v2), (3, .inl v3), (4, .inl v4), (5, .inl v5), (6, .inl (v6 + 1))] [2, 3, 4, 5, 6, 7, 0] rfl ?_
          exact hC ((v6 + 1), σ8) (Option.some.inj h).symm
      · refine pw_icmp_ge 48 (px_at td_Mo_feed 21 rfl) (by decide) (fun hn => absurd hn hc12) (fun _ => ?_)
        refine pw_iload_n 2 (px_at td_Mo_feed 22 rfl) rfl rfl ?_
        refine pw_goto 73 (px_at td_Mo_feed 23 rfl) (by decide) ?_
        refine pw_istore (L' := [(7, .inl v2), (0, .inr (some (0, 0, 0))), (1, .inl v1), (2, .inl v2), (3, .inl v3), (4, .inl v4), (5, .inl v5), (6, .inl v6)]) (px_at td_Mo_feed 35 rfl) (by decide) rfl ?_
        refine pw_aload_n 1 (px_at td_Mo_feed 36 rfl) rfl rfl ?_
        refine pw_getf (v := .inr (some (1, 1, 0))) (px_at td_Mo_feed 37 rfl) lf_Mo_7 rfl rfl rfl ?_
        refine pw_aload_n 1 (px_at td_Mo_feed 38 rfl) rfl rfl ?_
        refine pw_getf (v := .inl (σ (0, 0, 0) 2)) (px_at td_Mo_feed 39 rfl) lf_Mo_102 rfl rfl rfl ?_
        refine pw_iload 7 (px_at td_Mo_feed 40 rfl) rfl ?_
        refine pw_iadd (px_at td_Mo_feed 41 rfl) ?_
        refine pw_iload 0 (px_at td_Mo_feed 42 rfl) rfl ?_
        refine pw_bipush (v := 24) (px_at td_Mo_feed 43 rfl) (by decide) ?_
        refine pw_bipush (v := 8) (px_at td_Mo_feed 44 rfl) (by decide) ?_
        refine pw_iload 7 (px_at td_Mo_feed 45 rfl) rfl ?_
        refine pw_iconst (v := 4) (px_at td_Mo_feed 46 rfl) (by decide) ?_
        refine pw_irem (px_at td_Mo_feed 47 rfl) (by decide) ?_
        refine pw_imul (px_at td_Mo_feed 48 rfl) ?_
        refine pw_isub (px_at td_Mo_feed 49 rfl) ?_
        refine pw_ishr (px_at td_Mo_feed 50 rfl) ?_
        refine pw_sipush (v := 255) (px_at td_Mo_feed 51 rfl) (by decide) ?_
        refine pw_iand (px_at td_Mo_feed 52 rfl) ?_
        obtain ⟨hi10, h⟩ := px_gd_e h
        obtain ⟨σ11, hσ11, h⟩ := px_l_e h
        refine pw_ias (px_at td_Mo_feed 53 rfl) rfl hi10 rfl hσ11 ?_
        refine pw_iinc (q := 7) (v := (v6 + 1)) (L' := [(6, .inl (v6 + 1)), (7, .inl v2), (0, .inr (some (0, 0, 0))), (1, .inl v1), (2, .inl v2), (3, .inl v3), (4, .inl v4), (5, .inl v5)]) (px_at td_Mo_feed 54 rfl) rfl rfl (by decide) rfl ?_
        refine pw_goto 20 (px_at td_Mo_feed 55 rfl) (by decide) ?_
        refine pw_L [(0, .inr (some (0, 0, 0))), (1, .inl v1), (2, .inl v2), (3, .inl v3), (4, .inl v4), (5, .inl v5), (6, .inl (v6 + 1))] [2, 3, 4, 5, 6, 7, 0] rfl ?_
        exact hC ((v6 + 1), σ11) (Option.some.inj h).symm
    · refine pw_icmp_ge 37 (px_at td_Mo_feed 16 rfl) (by decide) (fun hn => absurd hn hc15) (fun _ => ?_)
      refine pw_iload_n 1 (px_at td_Mo_feed 17 rfl) rfl rfl ?_
      refine pw_goto 73 (px_at td_Mo_feed 18 rfl) (by decide) ?_
      refine pw_istore (L' := [(7, .inl v1), (0, .inr (some (0, 0, 0))), (1, .inl v1), (2, .inl v2), (3, .inl v3), (4, .inl v4), (5, .inl v5), (6, .inl v6)]) (px_at td_Mo_feed 35 rfl) (by decide) rfl ?_
      refine pw_aload_n 1 (px_at td_Mo_feed 36 rfl) rfl rfl ?_
      refine pw_getf (v := .inr (some (1, 1, 0))) (px_at td_Mo_feed 37 rfl) lf_Mo_7 rfl rfl rfl ?_
      refine pw_aload_n 1 (px_at td_Mo_feed 38 rfl) rfl rfl ?_
      refine pw_getf (v := .inl (σ (0, 0, 0) 2)) (px_at td_Mo_feed 39 rfl) lf_Mo_102 rfl rfl rfl ?_
      refine pw_iload 7 (px_at td_Mo_feed 40 rfl) rfl ?_
      refine pw_iadd (px_at td_Mo_feed 41 rfl) ?_
      refine pw_iload 0 (px_at td_Mo_feed 42 rfl) rfl ?_
      refine pw_bipush (v := 24) (px_at td_Mo_feed 43 rfl) (by decide) ?_
      refine pw_bipush (v := 8) (px_at td_Mo_feed 44 rfl) (by decide) ?_
      refine pw_iload 7 (px_at td_Mo_feed 45 rfl) rfl ?_
      refine pw_iconst (v := 4) (px_at td_Mo_feed 46 rfl) (by decide) ?_
      refine pw_irem (px_at td_Mo_feed 47 rfl) (by decide) ?_
      refine pw_imul (px_at td_Mo_feed 48 rfl) ?_
      refine pw_isub (px_at td_Mo_feed 49 rfl) ?_
      refine pw_ishr (px_at td_Mo_feed 50 rfl) ?_
      refine pw_sipush (v := 255) (px_at td_Mo_feed 51 rfl) (by decide) ?_
      refine pw_iand (px_at td_Mo_feed 52 rfl) ?_
      obtain ⟨hi13, h⟩ := px_gd_e h
      obtain ⟨σ14, hσ14, h⟩ := px_l_e h
      refine pw_ias (px_at td_Mo_feed 53 rfl) rfl hi13 rfl hσ14 ?_
      refine pw_iinc (q := 7) (v := (v6 + 1)) (L' := [(6, .inl (v6 + 1)), (7, .inl v1), (0, .inr (some (0, 0, 0))), (1, .inl v1), (2, .inl v2), (3, .inl v3), (4, .inl v4), (5, .inl v5)]) (px_at td_Mo_feed 54 rfl) rfl rfl (by decide) rfl ?_
      refine pw_goto 20 (px_at td_Mo_feed 55 rfl) (by decide) ?_
      refine pw_L [(0, .inr (some (0, 0, 0))), (1, .inl v1), (2, .inl v2), (3, .inl v3), (4, .inl v4), (5, .inl v5), (6, .inl (v6 + 1))] [2, 3, 4, 5, 6, 7, 0] rfl ?_
      exact hC ((v6 + 1), σ14) (Option.some.inj h).symm
def Mo_feed_L20 (v1 : Int32) (v2 : Int32) (v3 : Int32) (v4 : Int32) (v5 : Int32) : (Int32 × pxS) → Option ((Int32 × pxS) ⊕ (pxS)) := fun s => Mo_feed_n20 s.2 v1 v2 v3 v4 v5 s.1
set_option maxRecDepth 100000 in
theorem Mo_feed_L20_l {l : Launch} {ids : List pxI} {Rt : Option pxV → List pxI → pxG → pxS → Prop} {v1 : Int32} {v2 : Int32} {v3 : Int32} {v4 : Int32} {v5 : Int32} {n : Nat} {s : Int32 × pxS} {e : pxS} (h : px_it (Mo_feed_L20 v1 v2 v3 v4 v5) n s = some e) (hX0 : pw l (px_R 1) y_Mo_feed c_Mo_feed 8 (some .int) 110 [(0, .inr (some (0, 0, 0)))] [] ids mG e 0 0 Rt) : pw l (px_R 1) y_Mo_feed c_Mo_feed 8 (some .int) 20 [(0, .inr (some (0, 0, 0))), (1, .inl v1), (2, .inl v2), (3, .inl v3), (4, .inl v4), (5, .inl v5), (6, .inl s.1)] [] ids mG s.2 0 0 Rt := by
  refine px_it_rule (f := Mo_feed_L20 v1 v2 v3 v4 v5) (C := fun s => pw l (px_R 1) y_Mo_feed c_Mo_feed 8 (some .int) 20 [(0, .inr (some (0, 0, 0))), (1, .inl v1), (2, .inl v2), (3, .inl v3), (4, .inl v4), (5, .inl v5), (6, .inl s.1)] [] ids mG s.2 0 0 Rt) (X := fun e => (pw l (px_R 1) y_Mo_feed c_Mo_feed 8 (some .int) 110 [(0, .inr (some (0, 0, 0)))] [] ids mG e 0 0 Rt)) ?_ ?_ n s e h hX0
  · intro s s1 hf hC
    exact Mo_feed_n20_l hf (fun s2 hs => by cases hs; exact hC) (fun e he => by cases he)
  · intro s e hf hX
    exact Mo_feed_n20_l hf (fun s2 hs => by cases hs) (fun e1 he => by cases he; exact hX)
def F_Mo_feed (σ : pxS) (v1 : Int32) (v2 : Int32) (v3 : Int32) (v4 : Int32) (v5 : Int32) : Option (Int32 × pxS) :=
  px_l (px_up σ (0, 0, 0) 0 0) fun σ1 =>
  (if (σ1 (0, 0, 0) 2) ≤ 680 then px_b1 (px_it (Mo_feed_L20 v1 v2 v3 v4 v5) px_N (0, σ1)) fun e17 =>
  px_l (px_up e17 (0, 0, 0) 2 ((e17 (0, 0, 0) 2) + 20)) fun σ18 =>
  some ((σ18 (0, 0, 0) 2), σ18) else some ((-1), σ1))
set_option maxRecDepth 100000 in
theorem e_Mo_feed {l : Launch} {ids : List pxI} {Rt : Option pxV → List pxI → pxG → pxS → Prop} {σ : pxS} {v1 : Int32} {v2 : Int32} {v3 : Int32} {v4 : Int32} {v5 : Int32} {res : Int32 × pxS} (h : F_Mo_feed σ v1 v2 v3 v4 v5 = some res) (hR : Rt (some (.inl res.1)) ids mG res.2) : pw l (px_R 1) y_Mo_feed c_Mo_feed 8 (some .int) 0 [(0, .inr (some (0, 0, 0))), (1, .inl v1), (2, .inl v2), (3, .inl v3), (4, .inl v4), (5, .inl v5)] [] ids mG σ 0 0 Rt := by
  unfold F_Mo_feed at h
  refine pw_aload_n 0 (px_at td_Mo_feed 0 rfl) rfl rfl ?_
  refine pw_iconst (v := 0) (px_at td_Mo_feed 1 rfl) (by decide) ?_
  obtain ⟨σ1, hσ1, h⟩ := px_l_e h
  refine pw_puti (px_at td_Mo_feed 2 rfl) lw_Mo_99 rfl rfl (pw_s hσ1 ?_)
  refine pw_aload_n 0 (px_at td_Mo_feed 3 rfl) rfl rfl ?_
  refine pw_getf (v := .inl (σ1 (0, 0, 0) 2)) (px_at td_Mo_feed 4 rfl) lf_Mo_102 rfl rfl rfl ?_
  refine pw_sipush (v := 680) (px_at td_Mo_feed 5 rfl) (by decide) ?_
  rcases px_ite h with ⟨hc19, h⟩ | ⟨hc19, h⟩
  · refine pw_icmp_le 17 (px_at td_Mo_feed 6 rfl) (by decide) (fun _ => ?_) (fun hn => absurd hc19 hn)
    refine pw_iconst (v := 0) (px_at td_Mo_feed 9 rfl) (by decide) ?_
    refine pw_istore (L' := [(6, .inl 0), (0, .inr (some (0, 0, 0))), (1, .inl v1), (2, .inl v2), (3, .inl v3), (4, .inl v4), (5, .inl v5)]) (px_at td_Mo_feed 10 rfl) (by decide) rfl ?_
    obtain ⟨e17, he17, h⟩ := px_b1_e h
    refine pw_L [(0, .inr (some (0, 0, 0))), (1, .inl v1), (2, .inl v2), (3, .inl v3), (4, .inl v4), (5, .inl v5), (6, .inl 0)] [1, 2, 3, 4, 5, 6, 0] rfl ?_
    refine Mo_feed_L20_l he17 ?_
    refine pw_aload_n 0 (px_at td_Mo_feed 56 rfl) rfl rfl ?_
    refine pw_dup (px_at td_Mo_feed 57 rfl) ?_
    refine pw_getf (v := .inl (e17 (0, 0, 0) 2)) (px_at td_Mo_feed 58 rfl) lf_Mo_102 rfl rfl rfl ?_
    refine pw_bipush (v := 20) (px_at td_Mo_feed 59 rfl) (by decide) ?_
    refine pw_iadd (px_at td_Mo_feed 60 rfl) ?_
    obtain ⟨σ18, hσ18, h⟩ := px_l_e h
    refine pw_puti (px_at td_Mo_feed 61 rfl) lw_Mo_102 rfl rfl (pw_s hσ18 ?_)
    refine pw_aload_n 0 (px_at td_Mo_feed 62 rfl) rfl rfl ?_
    refine pw_getf (v := .inl (σ18 (0, 0, 0) 2)) (px_at td_Mo_feed 63 rfl) lf_Mo_102 rfl rfl rfl ?_
    obtain rfl := Option.some.inj h
    exact pw_iret (px_at td_Mo_feed 64 rfl) rfl (Nat.le_refl 0) (Nat.le_refl 0) hR
  · refine pw_icmp_le 17 (px_at td_Mo_feed 6 rfl) (by decide) (fun hn => absurd hn hc19) (fun _ => ?_)
    refine pw_iconst (v := (-1)) (px_at td_Mo_feed 7 rfl) (by decide) ?_
    obtain rfl := Option.some.inj h
    exact pw_iret (px_at td_Mo_feed 8 rfl) rfl (Nat.le_refl 0) (Nat.le_refl 0) hR
theorem k_Mo_feed {l : Launch} {ids : List pxI} {σ : pxS} {v1 : Int32} {v2 : Int32} {v3 : Int32} {v4 : Int32} {v5 : Int32} {res : Int32 × pxS} (h : F_Mo_feed σ v1 v2 v3 v4 v5 = some res) : pm l y_Mo_feed c_Mo_feed 8 (some .int) (px_R 1) [.inr (some (0, 0, 0)), .inl v1, .inl v2, .inl v3, .inl v4, .inl v5] ids mG σ (px_r (some (.inl res.1)) ids mG res.2) :=
  pm_ofF (by decide +kernel) (Nat.le_of_ble_eq_true rfl) (e_Mo_feed h ⟨rfl, rfl, rfl, rfl⟩)
/-! Mo_here -/
def F_Mo_here (σ : pxS)  : Option (Int32) :=
  (if (σ (0, 0, 0) 17) ≤ (σ (0, 0, 0) 18) then some ((-1)) else px_gd (σ (0, 0, 0) 18) 700 (some ((σ (1, 1, 0) (σ (0, 0, 0) 18).toNatClampNeg))))
set_option maxRecDepth 100000 in
theorem e_Mo_here {l : Launch} {ids : List pxI} {Rt : Option pxV → List pxI → pxG → pxS → Prop} {σ : pxS}  {res : Int32} (h : F_Mo_here σ  = some res) (hR : Rt (some (.inl res)) ids mG σ) : pw l (px_R 1) y_Mo_here c_Mo_here 1 (some .int) 0 [(0, .inr (some (0, 0, 0)))] [] ids mG σ 0 0 Rt := by
  unfold F_Mo_here at h
  refine pw_aload_n 0 (px_at td_Mo_here 0 rfl) rfl rfl ?_
  refine pw_getf (v := .inl (σ (0, 0, 0) 18)) (px_at td_Mo_here 1 rfl) lf_Mo_105 rfl rfl rfl ?_
  refine pw_aload_n 0 (px_at td_Mo_here 2 rfl) rfl rfl ?_
  refine pw_getf (v := .inl (σ (0, 0, 0) 17)) (px_at td_Mo_here 3 rfl) lf_Mo_108 rfl rfl rfl ?_
  rcases px_ite h with ⟨hc2, h⟩ | ⟨hc2, h⟩
  · refine pw_icmp_ge 23 (px_at td_Mo_here 4 rfl) (by decide) (fun _ => ?_) (fun hn => absurd hc2 hn)
    refine pw_iconst (v := (-1)) (px_at td_Mo_here 11 rfl) (by decide) ?_
    obtain rfl := Option.some.inj h
    exact pw_iret (px_at td_Mo_here 12 rfl) rfl (Nat.le_refl 0) (Nat.le_refl 0) hR
  · refine pw_icmp_ge 23 (px_at td_Mo_here 4 rfl) (by decide) (fun hn => absurd hn hc2) (fun _ => ?_)
    refine pw_aload_n 0 (px_at td_Mo_here 5 rfl) rfl rfl ?_
    refine pw_getf (v := .inr (some (1, 1, 0))) (px_at td_Mo_here 6 rfl) lf_Mo_7 rfl rfl rfl ?_
    refine pw_aload_n 0 (px_at td_Mo_here 7 rfl) rfl rfl ?_
    refine pw_getf (v := .inl (σ (0, 0, 0) 18)) (px_at td_Mo_here 8 rfl) lf_Mo_105 rfl rfl rfl ?_
    obtain ⟨hi1, h⟩ := px_gd_e h
    refine pw_ial (px_at td_Mo_here 9 rfl) rfl hi1 rfl ?_
    refine pw_goto 24 (px_at td_Mo_here 10 rfl) (by decide) ?_
    obtain rfl := Option.some.inj h
    exact pw_iret (px_at td_Mo_here 12 rfl) rfl (Nat.le_refl 0) (Nat.le_refl 0) hR
theorem k_Mo_here {l : Launch} {ids : List pxI} {σ : pxS}  {res : Int32} (h : F_Mo_here σ  = some res) : pm l y_Mo_here c_Mo_here 1 (some .int) (px_R 1) [.inr (some (0, 0, 0))] ids mG σ (px_r (some (.inl res)) ids mG σ) :=
  pm_ofF (by decide +kernel) (Nat.le_of_ble_eq_true rfl) (e_Mo_here h ⟨rfl, rfl, rfl, rfl⟩)
/-! Mo_isSmall -/
def Mo_isSmall_n16 (σ : pxS)  : Option (Int32) :=
  some (0)
set_option maxRecDepth 100000 in
theorem Mo_isSmall_n16_l {l : Launch} {ids : List pxI} {Rt : Option pxV → List pxI → pxG → pxS → Prop} {σ : pxS}  {res : Int32} (h : Mo_isSmall_n16 σ  = some res) (hR : Rt (some (.inl res)) ids mG σ) : pw l (px_R 1) y_Mo_isSmall c_Mo_isSmall 1 (some .boolean) 16 [] [] ids mG σ 0 0 Rt := by
  unfold Mo_isSmall_n16 at h
  refine pw_iconst (v := 0) (px_at td_Mo_isSmall 8 rfl) (by decide) ?_
  obtain rfl := Option.some.inj h
  exact pw_zret (px_at td_Mo_isSmall 9 rfl) rfl (by decide) (Nat.le_refl 0) (Nat.le_refl 0) hR
def F_Mo_isSmall (σ : pxS) (v0 : Int32) : Option (Int32) :=
  (if v0 < 97 then Mo_isSmall_n16 σ  else (if 122 < v0 then Mo_isSmall_n16 σ  else some (1)))
set_option maxRecDepth 100000 in
theorem e_Mo_isSmall {l : Launch} {ids : List pxI} {Rt : Option pxV → List pxI → pxG → pxS → Prop} {σ : pxS} {v0 : Int32} {res : Int32} (h : F_Mo_isSmall σ v0 = some res) (hR : Rt (some (.inl res)) ids mG σ) : pw l (px_R 1) y_Mo_isSmall c_Mo_isSmall 1 (some .boolean) 0 [(0, .inl v0)] [] ids mG σ 0 0 Rt := by
  unfold F_Mo_isSmall at h
  refine pw_iload_n 0 (px_at td_Mo_isSmall 0 rfl) rfl rfl ?_
  refine pw_bipush (v := 97) (px_at td_Mo_isSmall 1 rfl) (by decide) ?_
  rcases px_ite h with ⟨hc2, h⟩ | ⟨hc2, h⟩
  · refine pw_icmp_lt 16 (px_at td_Mo_isSmall 2 rfl) (by decide) (fun _ => ?_) (fun hn => absurd hc2 hn)
    refine pw_L [] [] rfl ?_
    exact Mo_isSmall_n16_l h hR
  · refine pw_icmp_lt 16 (px_at td_Mo_isSmall 2 rfl) (by decide) (fun hn => absurd hn hc2) (fun _ => ?_)
    refine pw_iload_n 0 (px_at td_Mo_isSmall 3 rfl) rfl rfl ?_
    refine pw_bipush (v := 122) (px_at td_Mo_isSmall 4 rfl) (by decide) ?_
    rcases px_ite h with ⟨hc1, h⟩ | ⟨hc1, h⟩
    · refine pw_icmp_gt 16 (px_at td_Mo_isSmall 5 rfl) (by decide) (fun _ => ?_) (fun hn => absurd hc1 hn)
      refine pw_L [] [] rfl ?_
      exact Mo_isSmall_n16_l h hR
    · refine pw_icmp_gt 16 (px_at td_Mo_isSmall 5 rfl) (by decide) (fun hn => absurd hn hc1) (fun _ => ?_)
      refine pw_iconst (v := 1) (px_at td_Mo_isSmall 6 rfl) (by decide) ?_
      refine pw_goto 17 (px_at td_Mo_isSmall 7 rfl) (by decide) ?_
      obtain rfl := Option.some.inj h
      exact pw_zret (px_at td_Mo_isSmall 9 rfl) rfl (by decide) (Nat.le_refl 0) (Nat.le_refl 0) hR
theorem k_Mo_isSmall {l : Launch} {ids : List pxI} {σ : pxS} {v0 : Int32} {res : Int32} (h : F_Mo_isSmall σ v0 = some res) : pm l y_Mo_isSmall c_Mo_isSmall 1 (some .boolean) (px_R 1) [.inl v0] ids mG σ (px_r (some (.inl res)) ids mG σ) :=
  pm_ofF (by decide +kernel) (Nat.le_of_ble_eq_true rfl) (e_Mo_isSmall h ⟨rfl, rfl, rfl, rfl⟩)
/-! Mo_isDigit -/
def Mo_isDigit_n16 (σ : pxS)  : Option (Int32) :=
  some (0)
set_option maxRecDepth 100000 in
theorem Mo_isDigit_n16_l {l : Launch} {ids : List pxI} {Rt : Option pxV → List pxI → pxG → pxS → Prop} {σ : pxS}  {res : Int32} (h : Mo_isDigit_n16 σ  = some res) (hR : Rt (some (.inl res)) ids mG σ) : pw l (px_R 1) y_Mo_isDigit c_Mo_isDigit 1 (some .boolean) 16 [] [] ids mG σ 0 0 Rt := by
  unfold Mo_isDigit_n16 at h
  refine pw_iconst (v := 0) (px_at td_Mo_isDigit 8 rfl) (by decide) ?_
  obtain rfl := Option.some.inj h
  exact pw_zret (px_at td_Mo_isDigit 9 rfl) rfl (by decide) (Nat.le_refl 0) (Nat.le_refl 0) hR
def F_Mo_isDigit (σ : pxS) (v0 : Int32) : Option (Int32) :=
  (if v0 < 48 then Mo_isDigit_n16 σ  else (if 57 < v0 then Mo_isDigit_n16 σ  else some (1)))
set_option maxRecDepth 100000 in
theorem e_Mo_isDigit {l : Launch} {ids : List pxI} {Rt : Option pxV → List pxI → pxG → pxS → Prop} {σ : pxS} {v0 : Int32} {res : Int32} (h : F_Mo_isDigit σ v0 = some res) (hR : Rt (some (.inl res)) ids mG σ) : pw l (px_R 1) y_Mo_isDigit c_Mo_isDigit 1 (some .boolean) 0 [(0, .inl v0)] [] ids mG σ 0 0 Rt := by
  unfold F_Mo_isDigit at h
  refine pw_iload_n 0 (px_at td_Mo_isDigit 0 rfl) rfl rfl ?_
  refine pw_bipush (v := 48) (px_at td_Mo_isDigit 1 rfl) (by decide) ?_
  rcases px_ite h with ⟨hc2, h⟩ | ⟨hc2, h⟩
  · refine pw_icmp_lt 16 (px_at td_Mo_isDigit 2 rfl) (by decide) (fun _ => ?_) (fun hn => absurd hc2 hn)
    refine pw_L [] [] rfl ?_
    exact Mo_isDigit_n16_l h hR
  · refine pw_icmp_lt 16 (px_at td_Mo_isDigit 2 rfl) (by decide) (fun hn => absurd hn hc2) (fun _ => ?_)
    refine pw_iload_n 0 (px_at td_Mo_isDigit 3 rfl) rfl rfl ?_
    refine pw_bipush (v := 57) (px_at td_Mo_isDigit 4 rfl) (by decide) ?_
    rcases px_ite h with ⟨hc1, h⟩ | ⟨hc1, h⟩
    · refine pw_icmp_gt 16 (px_at td_Mo_isDigit 5 rfl) (by decide) (fun _ => ?_) (fun hn => absurd hc1 hn)
      refine pw_L [] [] rfl ?_
      exact Mo_isDigit_n16_l h hR
    · refine pw_icmp_gt 16 (px_at td_Mo_isDigit 5 rfl) (by decide) (fun hn => absurd hn hc1) (fun _ => ?_)
      refine pw_iconst (v := 1) (px_at td_Mo_isDigit 6 rfl) (by decide) ?_
      refine pw_goto 17 (px_at td_Mo_isDigit 7 rfl) (by decide) ?_
      obtain rfl := Option.some.inj h
      exact pw_zret (px_at td_Mo_isDigit 9 rfl) rfl (by decide) (Nat.le_refl 0) (Nat.le_refl 0) hR
theorem k_Mo_isDigit {l : Launch} {ids : List pxI} {σ : pxS} {v0 : Int32} {res : Int32} (h : F_Mo_isDigit σ v0 = some res) : pm l y_Mo_isDigit c_Mo_isDigit 1 (some .boolean) (px_R 1) [.inl v0] ids mG σ (px_r (some (.inl res)) ids mG σ) :=
  pm_ofF (by decide +kernel) (Nat.le_of_ble_eq_true rfl) (e_Mo_isDigit h ⟨rfl, rfl, rfl, rfl⟩)
/-! Mo_wordHere -/
def Mo_wordHere_n15 (σ : pxS) (v1 : Int32) (v2 : Int32) (v3 : Int32) : Option ((Int32) ⊕ (Int32)) :=
  px_gd (v2 + v3) 76 ((if (px_chr 0 (v2 + v3).toNatClampNeg) = 32 then some (.inr v3) else (if (σ (0, 0, 0) 18) ≤ ((σ (0, 0, 0) 19) + v3) then some (.inr v3) else px_gd ((σ (0, 0, 0) 19) + v3) 700 (px_gd (v2 + v3) 76 ((if (σ (1, 1, 0) ((σ (0, 0, 0) 19) + v3).toNatClampNeg) = (px_chr 0 (v2 + v3).toNatClampNeg) then some (.inl (v3 + 1)) else some (.inr v3)))))))
set_option maxRecDepth 100000 in
theorem Mo_wordHere_n15_l {l : Launch} {ids : List pxI} {Rt : Option pxV → List pxI → pxG → pxS → Prop} {σ : pxS} {v1 : Int32} {v2 : Int32} {v3 : Int32} {o : (Int32) ⊕ (Int32)} (h : Mo_wordHere_n15 σ v1 v2 v3 = some o) (hC : ∀ s, o = .inl s → pw l (px_R 6) y_Mo_wordHere c_Mo_wordHere 4 (some .int) 15 [(0, .inr (some (0, 0, 0))), (1, .inl v1), (2, .inl v2), (3, .inl s)] [] ids mG σ 0 0 Rt) (hX0 : ∀ e, o = .inr e → pw l (px_R 6) y_Mo_wordHere c_Mo_wordHere 4 (some .int) 69 [(0, .inr (some (0, 0, 0))), (1, .inl v1), (2, .inl v2), (3, .inl e)] [] ids mG σ 0 0 Rt) : pw l (px_R 6) y_Mo_wordHere c_Mo_wordHere 4 (some .int) 15 [(0, .inr (some (0, 0, 0))), (1, .inl v1), (2, .inl v2), (3, .inl v3)] [] ids mG σ 0 0 Rt := by
  unfold Mo_wordHere_n15 at h
  obtain ⟨hi1, h⟩ := px_gd_e h
  refine pw_sch2 (i := 0) 2 3 (px_at td_Mo_wordHere 10 rfl) (px_at td_Mo_wordHere 11 rfl) (px_at td_Mo_wordHere 12 rfl) (px_at td_Mo_wordHere 13 rfl) (px_at td_Mo_wordHere 14 rfl) rfl rfl rfl rfl (Or.inl ⟨rfl, rfl, rfl⟩) ls_Mo_145 hi1 (by decide) (Nat.le_of_ble_eq_true rfl) ?_
  refine pw_bipush (v := 32) (px_at td_Mo_wordHere 15 rfl) (by decide) ?_
  rcases px_ite h with ⟨hc6, h⟩ | ⟨hc6, h⟩
  · refine pw_icmp_eq 69 (px_at td_Mo_wordHere 16 rfl) (by decide) (fun _ => ?_) (fun hn => absurd hc6 hn)
    exact hX0 v3 (Option.some.inj h).symm
  · refine pw_icmp_eq 69 (px_at td_Mo_wordHere 16 rfl) (by decide) (fun hn => absurd hn hc6) (fun _ => ?_)
    refine pw_aload_n 0 (px_at td_Mo_wordHere 17 rfl) rfl rfl ?_
    refine pw_getf (v := .inl (σ (0, 0, 0) 19)) (px_at td_Mo_wordHere 18 rfl) lf_Mo_115 rfl rfl rfl ?_
    refine pw_iload_n 3 (px_at td_Mo_wordHere 19 rfl) rfl rfl ?_
    refine pw_iadd (px_at td_Mo_wordHere 20 rfl) ?_
    refine pw_aload_n 0 (px_at td_Mo_wordHere 21 rfl) rfl rfl ?_
    refine pw_getf (v := .inl (σ (0, 0, 0) 18)) (px_at td_Mo_wordHere 22 rfl) lf_Mo_105 rfl rfl rfl ?_
    rcases px_ite h with ⟨hc5, h⟩ | ⟨hc5, h⟩
    · refine pw_icmp_ge 69 (px_at td_Mo_wordHere 23 rfl) (by decide) (fun _ => ?_) (fun hn => absurd hc5 hn)
      exact hX0 v3 (Option.some.inj h).symm
    · refine pw_icmp_ge 69 (px_at td_Mo_wordHere 23 rfl) (by decide) (fun hn => absurd hn hc5) (fun _ => ?_)
      refine pw_aload_n 0 (px_at td_Mo_wordHere 24 rfl) rfl rfl ?_
      refine pw_getf (v := .inr (some (1, 1, 0))) (px_at td_Mo_wordHere 25 rfl) lf_Mo_7 rfl rfl rfl ?_
      refine pw_aload_n 0 (px_at td_Mo_wordHere 26 rfl) rfl rfl ?_
      refine pw_getf (v := .inl (σ (0, 0, 0) 19)) (px_at td_Mo_wordHere 27 rfl) lf_Mo_115 rfl rfl rfl ?_
      refine pw_iload_n 3 (px_at td_Mo_wordHere 28 rfl) rfl rfl ?_
      refine pw_iadd (px_at td_Mo_wordHere 29 rfl) ?_
      obtain ⟨hi2, h⟩ := px_gd_e h
      refine pw_ial (px_at td_Mo_wordHere 30 rfl) rfl hi2 rfl ?_
      obtain ⟨hi3, h⟩ := px_gd_e h
      refine pw_sch2 (i := 0) 2 3 (px_at td_Mo_wordHere 31 rfl) (px_at td_Mo_wordHere 32 rfl) (px_at td_Mo_wordHere 33 rfl) (px_at td_Mo_wordHere 34 rfl) (px_at td_Mo_wordHere 35 rfl) rfl rfl rfl rfl (Or.inl ⟨rfl, rfl, rfl⟩) ls_Mo_145 hi3 (by decide) (Nat.le_of_ble_eq_true rfl) ?_
      rcases px_ite h with ⟨hc4, h⟩ | ⟨hc4, h⟩
      · refine pw_icmp_ne 69 (px_at td_Mo_wordHere 36 rfl) (by decide) (fun hn => absurd hc4 hn) (fun _ => ?_)
        refine pw_iinc (q := 3) (v := (v3 + 1)) (L' := [(3, .inl (v3 + 1)), (0, .inr (some (0, 0, 0))), (1, .inl v1), (2, .inl v2)]) (px_at td_Mo_wordHere 37 rfl) rfl rfl (by decide) rfl ?_
        refine pw_goto 15 (px_at td_Mo_wordHere 38 rfl) (by decide) ?_
        refine pw_L [(0, .inr (some (0, 0, 0))), (1, .inl v1), (2, .inl v2), (3, .inl (v3 + 1))] [1, 2, 3, 0] rfl ?_
        exact hC (v3 + 1) (Option.some.inj h).symm
      · refine pw_icmp_ne 69 (px_at td_Mo_wordHere 36 rfl) (by decide) (fun _ => ?_) (fun hn => absurd hn hc4)
        exact hX0 v3 (Option.some.inj h).symm
def Mo_wordHere_L15 (σ : pxS) (v1 : Int32) (v2 : Int32) : (Int32) → Option ((Int32) ⊕ (Int32)) := fun s => Mo_wordHere_n15 σ v1 v2 s
set_option maxRecDepth 100000 in
theorem Mo_wordHere_L15_l {l : Launch} {ids : List pxI} {Rt : Option pxV → List pxI → pxG → pxS → Prop} {σ : pxS} {v1 : Int32} {v2 : Int32} {n : Nat} {s : Int32} {e : Int32} (h : px_it (Mo_wordHere_L15 σ v1 v2) n s = some e) (hX0 : pw l (px_R 6) y_Mo_wordHere c_Mo_wordHere 4 (some .int) 69 [(0, .inr (some (0, 0, 0))), (1, .inl v1), (2, .inl v2), (3, .inl e)] [] ids mG σ 0 0 Rt) : pw l (px_R 6) y_Mo_wordHere c_Mo_wordHere 4 (some .int) 15 [(0, .inr (some (0, 0, 0))), (1, .inl v1), (2, .inl v2), (3, .inl s)] [] ids mG σ 0 0 Rt := by
  refine px_it_rule (f := Mo_wordHere_L15 σ v1 v2) (C := fun s => pw l (px_R 6) y_Mo_wordHere c_Mo_wordHere 4 (some .int) 15 [(0, .inr (some (0, 0, 0))), (1, .inl v1), (2, .inl v2), (3, .inl s)] [] ids mG σ 0 0 Rt) (X := fun e => (pw l (px_R 6) y_Mo_wordHere c_Mo_wordHere 4 (some .int) 69 [(0, .inr (some (0, 0, 0))), (1, .inl v1), (2, .inl v2), (3, .inl e)] [] ids mG σ 0 0 Rt)) ?_ ?_ n s e h hX0
  · intro s s1 hf hC
    exact Mo_wordHere_n15_l hf (fun s2 hs => by cases hs; exact hC) (fun e he => by cases he)
  · intro s e hf hX
    exact Mo_wordHere_n15_l hf (fun s2 hs => by cases hs) (fun e1 he => by cases he; exact hX)
def Mo_wordHere_n97 (σ : pxS) (v1 : Int32) (v2 : Int32) : Option ((Int32) ⊕ (Int32)) :=
  px_gd v2 76 ((if (px_chr 0 v2.toNatClampNeg) = 32 then some (.inr v2) else some (.inl (v2 + 1))))
set_option maxRecDepth 100000 in
theorem Mo_wordHere_n97_l {l : Launch} {ids : List pxI} {Rt : Option pxV → List pxI → pxG → pxS → Prop} {σ : pxS} {v1 : Int32} {v2 : Int32} {o : (Int32) ⊕ (Int32)} (h : Mo_wordHere_n97 σ v1 v2 = some o) (hC : ∀ s, o = .inl s → pw l (px_R 6) y_Mo_wordHere c_Mo_wordHere 4 (some .int) 97 [(0, .inr (some (0, 0, 0))), (1, .inl v1), (2, .inl s)] [] ids mG σ 0 0 Rt) (hX0 : ∀ e, o = .inr e → pw l (px_R 6) y_Mo_wordHere c_Mo_wordHere 4 (some .int) 114 [(0, .inr (some (0, 0, 0))), (1, .inl v1), (2, .inl e)] [] ids mG σ 0 0 Rt) : pw l (px_R 6) y_Mo_wordHere c_Mo_wordHere 4 (some .int) 97 [(0, .inr (some (0, 0, 0))), (1, .inl v1), (2, .inl v2)] [] ids mG σ 0 0 Rt := by
  unfold Mo_wordHere_n97 at h
  obtain ⟨hi9, h⟩ := px_gd_e h
  refine pw_sch1 (i := 0) 2 (px_at td_Mo_wordHere 55 rfl) (px_at td_Mo_wordHere 56 rfl) (px_at td_Mo_wordHere 57 rfl) rfl rfl (Or.inl ⟨rfl, rfl, rfl⟩) ls_Mo_145 hi9 (by decide) (Nat.le_of_ble_eq_true rfl) ?_
  refine pw_bipush (v := 32) (px_at td_Mo_wordHere 58 rfl) (by decide) ?_
  rcases px_ite h with ⟨hc10, h⟩ | ⟨hc10, h⟩
  · refine pw_icmp_eq 114 (px_at td_Mo_wordHere 59 rfl) (by decide) (fun _ => ?_) (fun hn => absurd hc10 hn)
    exact hX0 v2 (Option.some.inj h).symm
  · refine pw_icmp_eq 114 (px_at td_Mo_wordHere 59 rfl) (by decide) (fun hn => absurd hn hc10) (fun _ => ?_)
    refine pw_iinc (q := 2) (v := (v2 + 1)) (L' := [(2, .inl (v2 + 1)), (0, .inr (some (0, 0, 0))), (1, .inl v1)]) (px_at td_Mo_wordHere 60 rfl) rfl rfl (by decide) rfl ?_
    refine pw_goto 97 (px_at td_Mo_wordHere 61 rfl) (by decide) ?_
    refine pw_L [(0, .inr (some (0, 0, 0))), (1, .inl v1), (2, .inl (v2 + 1))] [1, 2, 0] rfl ?_
    exact hC (v2 + 1) (Option.some.inj h).symm
def Mo_wordHere_L97 (σ : pxS) (v1 : Int32) : (Int32) → Option ((Int32) ⊕ (Int32)) := fun s => Mo_wordHere_n97 σ v1 s
set_option maxRecDepth 100000 in
theorem Mo_wordHere_L97_l {l : Launch} {ids : List pxI} {Rt : Option pxV → List pxI → pxG → pxS → Prop} {σ : pxS} {v1 : Int32} {n : Nat} {s : Int32} {e : Int32} (h : px_it (Mo_wordHere_L97 σ v1) n s = some e) (hX0 : pw l (px_R 6) y_Mo_wordHere c_Mo_wordHere 4 (some .int) 114 [(0, .inr (some (0, 0, 0))), (1, .inl v1), (2, .inl e)] [] ids mG σ 0 0 Rt) : pw l (px_R 6) y_Mo_wordHere c_Mo_wordHere 4 (some .int) 97 [(0, .inr (some (0, 0, 0))), (1, .inl v1), (2, .inl s)] [] ids mG σ 0 0 Rt := by
  refine px_it_rule (f := Mo_wordHere_L97 σ v1) (C := fun s => pw l (px_R 6) y_Mo_wordHere c_Mo_wordHere 4 (some .int) 97 [(0, .inr (some (0, 0, 0))), (1, .inl v1), (2, .inl s)] [] ids mG σ 0 0 Rt) (X := fun e => (pw l (px_R 6) y_Mo_wordHere c_Mo_wordHere 4 (some .int) 114 [(0, .inr (some (0, 0, 0))), (1, .inl v1), (2, .inl e)] [] ids mG σ 0 0 Rt)) ?_ ?_ n s e h hX0
  · intro s s1 hf hC
    exact Mo_wordHere_n97_l hf (fun s2 hs => by cases hs; exact hC) (fun e he => by cases he)
  · intro s e hf hX
    exact Mo_wordHere_n97_l hf (fun s2 hs => by cases hs) (fun e1 he => by cases he; exact hX)
def Mo_wordHere_n4 (σ : pxS) (v1 : Int32) (v2 : Int32) : Option ((Int32 × Int32) ⊕ (Nat × Int32)) :=
  (if 76 ≤ v2 then some (.inr (1, 0)) else px_b1 (px_it (Mo_wordHere_L15 σ v1 v2) px_N 0) fun e7 =>
  px_gd (v2 + e7) 76 ((if (px_chr 0 (v2 + e7).toNatClampNeg) = 32 then (if ((σ (0, 0, 0) 19) + e7) = (σ (0, 0, 0) 18) then some (.inr (0, v1)) else px_b1 (px_it (Mo_wordHere_L97 σ v1) px_N v2) fun e12 =>
  some (.inl ((v1 + 1), (e12 + 1)))) else px_b1 (px_it (Mo_wordHere_L97 σ v1) px_N v2) fun e11 =>
  some (.inl ((v1 + 1), (e11 + 1))))))
set_option maxRecDepth 100000 in
theorem Mo_wordHere_n4_l {l : Launch} {ids : List pxI} {Rt : Option pxV → List pxI → pxG → pxS → Prop} {σ : pxS} {v1 : Int32} {v2 : Int32} {o : (Int32 × Int32) ⊕ (Nat × Int32)} (h : Mo_wordHere_n4 σ v1 v2 = some o) (hC : ∀ s, o = .inl s → pw l (px_R 6) y_Mo_wordHere c_Mo_wordHere 4 (some .int) 4 [(0, .inr (some (0, 0, 0))), (1, .inl s.1), (2, .inl s.2)] [] ids mG σ 0 0 Rt) (hX0 : ∀ e, o = .inr e → e.1 = 0 → pw l (px_R 6) y_Mo_wordHere c_Mo_wordHere 4 (some .int) 95 [(1, .inl e.2)] [] ids mG σ 0 0 Rt) (hX1 : ∀ e, o = .inr e → e.1 = 1 → pw l (px_R 6) y_Mo_wordHere c_Mo_wordHere 4 (some .int) 123 [] [] ids mG σ 0 0 Rt) : pw l (px_R 6) y_Mo_wordHere c_Mo_wordHere 4 (some .int) 4 [(0, .inr (some (0, 0, 0))), (1, .inl v1), (2, .inl v2)] [] ids mG σ 0 0 Rt := by
  unfold Mo_wordHere_n4 at h
  refine pw_iload_n 2 (px_at td_Mo_wordHere 4 rfl) rfl rfl ?_
  refine pw_slen (i := 0) (v := 76) (px_at td_Mo_wordHere 5 rfl) (px_at td_Mo_wordHere 6 rfl) (Or.inl ⟨rfl, rfl, rfl⟩) ls_Mo_140 (by decide) (by decide) (Nat.le_of_ble_eq_true rfl) ?_
  rcases px_ite h with ⟨hc15, h⟩ | ⟨hc15, h⟩
  · refine pw_icmp_ge 123 (px_at td_Mo_wordHere 7 rfl) (by decide) (fun _ => ?_) (fun hn => absurd hc15 hn)
    refine pw_L [] [] rfl ?_
    exact hX1 (1, 0) (Option.some.inj h).symm rfl
  · refine pw_icmp_ge 123 (px_at td_Mo_wordHere 7 rfl) (by decide) (fun hn => absurd hn hc15) (fun _ => ?_)
    refine pw_iconst (v := 0) (px_at td_Mo_wordHere 8 rfl) (by decide) ?_
    refine pw_istore_n (L' := [(3, .inl 0), (0, .inr (some (0, 0, 0))), (1, .inl v1), (2, .inl v2)]) (px_at td_Mo_wordHere 9 rfl) rfl (by decide) rfl ?_
    obtain ⟨e7, he7, h⟩ := px_b1_e h
    refine pw_L [(0, .inr (some (0, 0, 0))), (1, .inl v1), (2, .inl v2), (3, .inl 0)] [1, 2, 3, 0] rfl ?_
    refine Mo_wordHere_L15_l he7 ?_
    obtain ⟨hi8, h⟩ := px_gd_e h
    refine pw_sch2 (i := 0) 2 3 (px_at td_Mo_wordHere 39 rfl) (px_at td_Mo_wordHere 40 rfl) (px_at td_Mo_wordHere 41 rfl) (px_at td_Mo_wordHere 42 rfl) (px_at td_Mo_wordHere 43 rfl) rfl rfl rfl rfl (Or.inl ⟨rfl, rfl, rfl⟩) ls_Mo_145 hi8 (by decide) (Nat.le_of_ble_eq_true rfl) ?_
    refine pw_bipush (v := 32) (px_at td_Mo_wordHere 44 rfl) (by decide) ?_
    rcases px_ite h with ⟨hc14, h⟩ | ⟨hc14, h⟩
    · refine pw_icmp_ne 97 (px_at td_Mo_wordHere 45 rfl) (by decide) (fun hn => absurd hc14 hn) (fun _ => ?_)
      refine pw_aload_n 0 (px_at td_Mo_wordHere 46 rfl) rfl rfl ?_
      refine pw_getf (v := .inl (σ (0, 0, 0) 19)) (px_at td_Mo_wordHere 47 rfl) lf_Mo_115 rfl rfl rfl ?_
      refine pw_iload_n 3 (px_at td_Mo_wordHere 48 rfl) rfl rfl ?_
      refine pw_iadd (px_at td_Mo_wordHere 49 rfl) ?_
      refine pw_aload_n 0 (px_at td_Mo_wordHere 50 rfl) rfl rfl ?_
      refine pw_getf (v := .inl (σ (0, 0, 0) 18)) (px_at td_Mo_wordHere 51 rfl) lf_Mo_105 rfl rfl rfl ?_
      rcases px_ite h with ⟨hc13, h⟩ | ⟨hc13, h⟩
      · refine pw_icmp_ne 97 (px_at td_Mo_wordHere 52 rfl) (by decide) (fun hn => absurd hc13 hn) (fun _ => ?_)
        refine pw_L [(1, .inl v1)] [1] rfl ?_
        exact hX0 (0, v1) (Option.some.inj h).symm rfl
      · refine pw_icmp_ne 97 (px_at td_Mo_wordHere 52 rfl) (by decide) (fun _ => ?_) (fun hn => absurd hn hc13)
        obtain ⟨e12, he12, h⟩ := px_b1_e h
        refine pw_L [(0, .inr (some (0, 0, 0))), (1, .inl v1), (2, .inl v2)] [0, 1, 2] rfl ?_
        refine Mo_wordHere_L97_l he12 ?_
        refine pw_iinc (q := 2) (v := (e12 + 1)) (L' := [(2, .inl (e12 + 1)), (0, .inr (some (0, 0, 0))), (1, .inl v1)]) (px_at td_Mo_wordHere 62 rfl) rfl rfl (by decide) rfl ?_
        refine pw_iinc (q := 2) (v := (v1 + 1)) (L' := [(1, .inl (v1 + 1)), (2, .inl (e12 + 1)), (0, .inr (some (0, 0, 0)))]) (px_at td_Mo_wordHere 63 rfl) rfl rfl (by decide) rfl ?_
        refine pw_goto 4 (px_at td_Mo_wordHere 64 rfl) (by decide) ?_
        refine pw_L [(0, .inr (some (0, 0, 0))), (1, .inl (v1 + 1)), (2, .inl (e12 + 1))] [2, 0, 1] rfl ?_
        exact hC ((v1 + 1), (e12 + 1)) (Option.some.inj h).symm
    · refine pw_icmp_ne 97 (px_at td_Mo_wordHere 45 rfl) (by decide) (fun _ => ?_) (fun hn => absurd hn hc14)
      obtain ⟨e11, he11, h⟩ := px_b1_e h
      refine pw_L [(0, .inr (some (0, 0, 0))), (1, .inl v1), (2, .inl v2)] [0, 1, 2] rfl ?_
      refine Mo_wordHere_L97_l he11 ?_
      refine pw_iinc (q := 2) (v := (e11 + 1)) (L' := [(2, .inl (e11 + 1)), (0, .inr (some (0, 0, 0))), (1, .inl v1)]) (px_at td_Mo_wordHere 62 rfl) rfl rfl (by decide) rfl ?_
      refine pw_iinc (q := 2) (v := (v1 + 1)) (L' := [(1, .inl (v1 + 1)), (2, .inl (e11 + 1)), (0, .inr (some (0, 0, 0)))]) (px_at td_Mo_wordHere 63 rfl) rfl rfl (by decide) rfl ?_
      refine pw_goto 4 (px_at td_Mo_wordHere 64 rfl) (by decide) ?_
      refine pw_L [(0, .inr (some (0, 0, 0))), (1, .inl (v1 + 1)), (2, .inl (e11 + 1))] [2, 0, 1] rfl ?_
      exact hC ((v1 + 1), (e11 + 1)) (Option.some.inj h).symm
def Mo_wordHere_L4 (σ : pxS) : (Int32 × Int32) → Option ((Int32 × Int32) ⊕ (Nat × Int32)) := fun s => Mo_wordHere_n4 σ s.1 s.2
set_option maxRecDepth 100000 in
theorem Mo_wordHere_L4_l {l : Launch} {ids : List pxI} {Rt : Option pxV → List pxI → pxG → pxS → Prop} {σ : pxS} {n : Nat} {s : Int32 × Int32} {e : Nat × Int32} (h : px_it (Mo_wordHere_L4 σ) n s = some e) (hX0 : e.1 = 0 → pw l (px_R 6) y_Mo_wordHere c_Mo_wordHere 4 (some .int) 95 [(1, .inl e.2)] [] ids mG σ 0 0 Rt) (hX1 : e.1 = 1 → pw l (px_R 6) y_Mo_wordHere c_Mo_wordHere 4 (some .int) 123 [] [] ids mG σ 0 0 Rt) : pw l (px_R 6) y_Mo_wordHere c_Mo_wordHere 4 (some .int) 4 [(0, .inr (some (0, 0, 0))), (1, .inl s.1), (2, .inl s.2)] [] ids mG σ 0 0 Rt := by
  refine px_it_rule (f := Mo_wordHere_L4 σ) (C := fun s => pw l (px_R 6) y_Mo_wordHere c_Mo_wordHere 4 (some .int) 4 [(0, .inr (some (0, 0, 0))), (1, .inl s.1), (2, .inl s.2)] [] ids mG σ 0 0 Rt) (X := fun e => (e.1 = 0 → pw l (px_R 6) y_Mo_wordHere c_Mo_wordHere 4 (some .int) 95 [(1, .inl e.2)] [] ids mG σ 0 0 Rt) ∧ (e.1 = 1 → pw l (px_R 6) y_Mo_wordHere c_Mo_wordHere 4 (some .int) 123 [] [] ids mG σ 0 0 Rt)) ?_ ?_ n s e h ⟨hX0, hX1⟩
  · intro s s1 hf hC
    exact Mo_wordHere_n4_l hf (fun s2 hs => by cases hs; exact hC) (fun e he ht => by cases he) (fun e he ht => by cases he)
  · intro s e hf hX
    exact Mo_wordHere_n4_l hf (fun s2 hs => by cases hs) (fun e1 he ht => by cases he; exact hX.1 ht) (fun e1 he ht => by cases he; exact hX.2 ht)
def F_Mo_wordHere (σ : pxS)  : Option (Int32) :=
  px_b1 (px_it (Mo_wordHere_L4 σ) px_N (0, 0)) fun e16 =>
  (if e16.1 = 0 then some (e16.2) else some ((-1)))
set_option maxRecDepth 100000 in
theorem e_Mo_wordHere {l : Launch} {ids : List pxI} {Rt : Option pxV → List pxI → pxG → pxS → Prop} {σ : pxS}  {res : Int32} (h : F_Mo_wordHere σ  = some res) (hR : Rt (some (.inl res)) ids mG σ) : pw l (px_R 6) y_Mo_wordHere c_Mo_wordHere 4 (some .int) 0 [(0, .inr (some (0, 0, 0)))] [] ids mG σ 0 0 Rt := by
  unfold F_Mo_wordHere at h
  refine pw_iconst (v := 0) (px_at td_Mo_wordHere 0 rfl) (by decide) ?_
  refine pw_istore_n (L' := [(1, .inl 0), (0, .inr (some (0, 0, 0)))]) (px_at td_Mo_wordHere 1 rfl) rfl (by decide) rfl ?_
  refine pw_iconst (v := 0) (px_at td_Mo_wordHere 2 rfl) (by decide) ?_
  refine pw_istore_n (L' := [(2, .inl 0), (1, .inl 0), (0, .inr (some (0, 0, 0)))]) (px_at td_Mo_wordHere 3 rfl) rfl (by decide) rfl ?_
  obtain ⟨e16, he16, h⟩ := px_b1_e h
  refine pw_L [(0, .inr (some (0, 0, 0))), (1, .inl 0), (2, .inl 0)] [2, 1, 0] rfl ?_
  refine Mo_wordHere_L4_l he16 (fun ht0 => ?_) (fun ht1 => ?_)
  · rw [if_pos ht0] at h
    refine pw_iload_n 0 (px_at td_Mo_wordHere 53 rfl) rfl rfl ?_
    obtain rfl := Option.some.inj h
    exact pw_iret (px_at td_Mo_wordHere 54 rfl) rfl (Nat.le_refl 0) (Nat.le_refl 0) hR
  · rw [if_neg (by rw [ht1]; decide)] at h
    refine pw_iconst (v := (-1)) (px_at td_Mo_wordHere 65 rfl) (by decide) ?_
    obtain rfl := Option.some.inj h
    exact pw_iret (px_at td_Mo_wordHere 66 rfl) rfl (Nat.le_refl 0) (Nat.le_refl 0) hR
theorem k_Mo_wordHere {l : Launch} {ids : List pxI} {σ : pxS}  {res : Int32} (h : F_Mo_wordHere σ  = some res) : pm l y_Mo_wordHere c_Mo_wordHere 4 (some .int) (px_R 6) [.inr (some (0, 0, 0))] ids mG σ (px_r (some (.inl res)) ids mG σ) :=
  pm_ofF (by decide +kernel) (Nat.le_of_ble_eq_true rfl) (e_Mo_wordHere h ⟨rfl, rfl, rfl, rfl⟩)
/-! Mo_nameHere -/
def Mo_nameHere_n7 (σ : pxS) (v1 : Int32) : Option ((Int32 × pxS) ⊕ (pxS)) :=
  (if 6 ≤ v1 then some (.inr σ) else (if (σ (0, 0, 0) 18) ≤ ((σ (0, 0, 0) 19) + v1) then px_l (px_up σ (0, 0, 0) 21 (((σ (0, 0, 0) 21) <<< (5 &&& 31)) ||| 0)) fun σ2 =>
  some (.inl ((v1 + 1), σ2)) else px_gd ((σ (0, 0, 0) 19) + v1) 700 (px_l (px_up σ (0, 0, 0) 21 (((σ (0, 0, 0) 21) <<< (5 &&& 31)) ||| (((σ (1, 1, 0) ((σ (0, 0, 0) 19) + v1).toNatClampNeg) - 97) + 1))) fun σ4 =>
  some (.inl ((v1 + 1), σ4)))))
set_option maxRecDepth 100000 in
theorem Mo_nameHere_n7_l {l : Launch} {ids : List pxI} {Rt : Option pxV → List pxI → pxG → pxS → Prop} {σ : pxS} {v1 : Int32} {o : (Int32 × pxS) ⊕ (pxS)} (h : Mo_nameHere_n7 σ v1 = some o) (hC : ∀ s, o = .inl s → pw l (px_R 1) y_Mo_nameHere c_Mo_nameHere 2 none 7 [(0, .inr (some (0, 0, 0))), (1, .inl s.1)] [] ids mG s.2 0 0 Rt) (hX0 : ∀ e, o = .inr e → pw l (px_R 1) y_Mo_nameHere c_Mo_nameHere 2 none 63 [] [] ids mG e 0 0 Rt) : pw l (px_R 1) y_Mo_nameHere c_Mo_nameHere 2 none 7 [(0, .inr (some (0, 0, 0))), (1, .inl v1)] [] ids mG σ 0 0 Rt := by
  unfold Mo_nameHere_n7 at h
  refine pw_iload_n 1 (px_at td_Mo_nameHere 5 rfl) rfl rfl ?_
  refine pw_bipush (v := 6) (px_at td_Mo_nameHere 6 rfl) (by decide) ?_
  rcases px_ite h with ⟨hc6, h⟩ | ⟨hc6, h⟩
  · refine pw_icmp_ge 63 (px_at td_Mo_nameHere 7 rfl) (by decide) (fun _ => ?_) (fun hn => absurd hc6 hn)
    refine pw_L [] [] rfl ?_
    exact hX0 σ (Option.some.inj h).symm
  · refine pw_icmp_ge 63 (px_at td_Mo_nameHere 7 rfl) (by decide) (fun hn => absurd hn hc6) (fun _ => ?_)
    refine pw_aload_n 0 (px_at td_Mo_nameHere 8 rfl) rfl rfl ?_
    refine pw_aload_n 0 (px_at td_Mo_nameHere 9 rfl) rfl rfl ?_
    refine pw_getf (v := .inl (σ (0, 0, 0) 21)) (px_at td_Mo_nameHere 10 rfl) lf_Mo_128 rfl rfl rfl ?_
    refine pw_iconst (v := 5) (px_at td_Mo_nameHere 11 rfl) (by decide) ?_
    refine pw_ishl (px_at td_Mo_nameHere 12 rfl) ?_
    refine pw_aload_n 0 (px_at td_Mo_nameHere 13 rfl) rfl rfl ?_
    refine pw_getf (v := .inl (σ (0, 0, 0) 19)) (px_at td_Mo_nameHere 14 rfl) lf_Mo_115 rfl rfl rfl ?_
    refine pw_iload_n 1 (px_at td_Mo_nameHere 15 rfl) rfl rfl ?_
    refine pw_iadd (px_at td_Mo_nameHere 16 rfl) ?_
    refine pw_aload_n 0 (px_at td_Mo_nameHere 17 rfl) rfl rfl ?_
    refine pw_getf (v := .inl (σ (0, 0, 0) 18)) (px_at td_Mo_nameHere 18 rfl) lf_Mo_105 rfl rfl rfl ?_
    rcases px_ite h with ⟨hc5, h⟩ | ⟨hc5, h⟩
    · refine pw_icmp_ge 52 (px_at td_Mo_nameHere 19 rfl) (by decide) (fun _ => ?_) (fun hn => absurd hc5 hn)
      refine pw_iconst (v := 0) (px_at td_Mo_nameHere 32 rfl) (by decide) ?_
      refine pw_ior (px_at td_Mo_nameHere 33 rfl) ?_
      obtain ⟨σ2, hσ2, h⟩ := px_l_e h
      refine pw_puti (px_at td_Mo_nameHere 34 rfl) lw_Mo_128 rfl rfl (pw_s hσ2 ?_)
      refine pw_iinc (q := 1) (v := (v1 + 1)) (L' := [(1, .inl (v1 + 1)), (0, .inr (some (0, 0, 0)))]) (px_at td_Mo_nameHere 35 rfl) rfl rfl (by decide) rfl ?_
      refine pw_goto 7 (px_at td_Mo_nameHere 36 rfl) (by decide) ?_
      refine pw_L [(0, .inr (some (0, 0, 0))), (1, .inl (v1 + 1))] [1, 0] rfl ?_
      exact hC ((v1 + 1), σ2) (Option.some.inj h).symm
    · refine pw_icmp_ge 52 (px_at td_Mo_nameHere 19 rfl) (by decide) (fun hn => absurd hn hc5) (fun _ => ?_)
      refine pw_aload_n 0 (px_at td_Mo_nameHere 20 rfl) rfl rfl ?_
      refine pw_getf (v := .inr (some (1, 1, 0))) (px_at td_Mo_nameHere 21 rfl) lf_Mo_7 rfl rfl rfl ?_
      refine pw_aload_n 0 (px_at td_Mo_nameHere 22 rfl) rfl rfl ?_
      refine pw_getf (v := .inl (σ (0, 0, 0) 19)) (px_at td_Mo_nameHere 23 rfl) lf_Mo_115 rfl rfl rfl ?_
      refine pw_iload_n 1 (px_at td_Mo_nameHere 24 rfl) rfl rfl ?_
      refine pw_iadd (px_at td_Mo_nameHere 25 rfl) ?_
      obtain ⟨hi3, h⟩ := px_gd_e h
      refine pw_ial (px_at td_Mo_nameHere 26 rfl) rfl hi3 rfl ?_
      refine pw_bipush (v := 97) (px_at td_Mo_nameHere 27 rfl) (by decide) ?_
      refine pw_isub (px_at td_Mo_nameHere 28 rfl) ?_
      refine pw_iconst (v := 1) (px_at td_Mo_nameHere 29 rfl) (by decide) ?_
      refine pw_iadd (px_at td_Mo_nameHere 30 rfl) ?_
      refine pw_goto 53 (px_at td_Mo_nameHere 31 rfl) (by decide) ?_
      refine pw_ior (px_at td_Mo_nameHere 33 rfl) ?_
      obtain ⟨σ4, hσ4, h⟩ := px_l_e h
      refine pw_puti (px_at td_Mo_nameHere 34 rfl) lw_Mo_128 rfl rfl (pw_s hσ4 ?_)
      refine pw_iinc (q := 1) (v := (v1 + 1)) (L' := [(1, .inl (v1 + 1)), (0, .inr (some (0, 0, 0)))]) (px_at td_Mo_nameHere 35 rfl) rfl rfl (by decide) rfl ?_
      refine pw_goto 7 (px_at td_Mo_nameHere 36 rfl) (by decide) ?_
      refine pw_L [(0, .inr (some (0, 0, 0))), (1, .inl (v1 + 1))] [1, 0] rfl ?_
      exact hC ((v1 + 1), σ4) (Option.some.inj h).symm
def Mo_nameHere_L7  : (Int32 × pxS) → Option ((Int32 × pxS) ⊕ (pxS)) := fun s => Mo_nameHere_n7 s.2 s.1
set_option maxRecDepth 100000 in
theorem Mo_nameHere_L7_l {l : Launch} {ids : List pxI} {Rt : Option pxV → List pxI → pxG → pxS → Prop}  {n : Nat} {s : Int32 × pxS} {e : pxS} (h : px_it (Mo_nameHere_L7 ) n s = some e) (hX0 : pw l (px_R 1) y_Mo_nameHere c_Mo_nameHere 2 none 63 [] [] ids mG e 0 0 Rt) : pw l (px_R 1) y_Mo_nameHere c_Mo_nameHere 2 none 7 [(0, .inr (some (0, 0, 0))), (1, .inl s.1)] [] ids mG s.2 0 0 Rt := by
  refine px_it_rule (f := Mo_nameHere_L7 ) (C := fun s => pw l (px_R 1) y_Mo_nameHere c_Mo_nameHere 2 none 7 [(0, .inr (some (0, 0, 0))), (1, .inl s.1)] [] ids mG s.2 0 0 Rt) (X := fun e => (pw l (px_R 1) y_Mo_nameHere c_Mo_nameHere 2 none 63 [] [] ids mG e 0 0 Rt)) ?_ ?_ n s e h hX0
  · intro s s1 hf hC
    exact Mo_nameHere_n7_l hf (fun s2 hs => by cases hs; exact hC) (fun e he => by cases he)
  · intro s e hf hX
    exact Mo_nameHere_n7_l hf (fun s2 hs => by cases hs) (fun e1 he => by cases he; exact hX)
def F_Mo_nameHere (σ : pxS)  : Option (pxS) :=
  px_l (px_up σ (0, 0, 0) 21 0) fun σ1 =>
  px_b1 (px_it (Mo_nameHere_L7 ) px_N (0, σ1)) fun e7 =>
  some e7
set_option maxRecDepth 100000 in
theorem e_Mo_nameHere {l : Launch} {ids : List pxI} {Rt : Option pxV → List pxI → pxG → pxS → Prop} {σ : pxS}  {res : pxS} (h : F_Mo_nameHere σ  = some res) (hR : Rt none ids mG res) : pw l (px_R 1) y_Mo_nameHere c_Mo_nameHere 2 none 0 [(0, .inr (some (0, 0, 0)))] [] ids mG σ 0 0 Rt := by
  unfold F_Mo_nameHere at h
  refine pw_aload_n 0 (px_at td_Mo_nameHere 0 rfl) rfl rfl ?_
  refine pw_iconst (v := 0) (px_at td_Mo_nameHere 1 rfl) (by decide) ?_
  obtain ⟨σ1, hσ1, h⟩ := px_l_e h
  refine pw_puti (px_at td_Mo_nameHere 2 rfl) lw_Mo_128 rfl rfl (pw_s hσ1 ?_)
  refine pw_iconst (v := 0) (px_at td_Mo_nameHere 3 rfl) (by decide) ?_
  refine pw_istore_n (L' := [(1, .inl 0), (0, .inr (some (0, 0, 0)))]) (px_at td_Mo_nameHere 4 rfl) rfl (by decide) rfl ?_
  obtain ⟨e7, he7, h⟩ := px_b1_e h
  refine pw_L [(0, .inr (some (0, 0, 0))), (1, .inl 0)] [1, 0] rfl ?_
  refine Mo_nameHere_L7_l he7 ?_
  obtain rfl := Option.some.inj h
  exact pw_vret (px_at td_Mo_nameHere 37 rfl) rfl (Nat.le_refl 0) (Nat.le_refl 0) hR
theorem k_Mo_nameHere {l : Launch} {ids : List pxI} {σ : pxS}  {res : pxS} (h : F_Mo_nameHere σ  = some res) : pm l y_Mo_nameHere c_Mo_nameHere 2 none (px_R 1) [.inr (some (0, 0, 0))] ids mG σ (px_r none ids mG res) :=
  pm_ofF (by decide +kernel) (Nat.le_of_ble_eq_true rfl) (e_Mo_nameHere h ⟨rfl, rfl, rfl, rfl⟩)
/-! Mo_token -/
def Mo_token_n18 (σ : pxS)  : Option ((pxS) ⊕ (pxS)) :=
  px_l (px_up σ (0, 0, 0) 18 ((σ (0, 0, 0) 18) + 1)) fun σ2 =>
  some (.inl σ2)
set_option maxRecDepth 100000 in
theorem Mo_token_n18_l {l : Launch} {ids : List pxI} {Rt : Option pxV → List pxI → pxG → pxS → Prop} {σ : pxS}  {o : (pxS) ⊕ (pxS)} (h : Mo_token_n18 σ  = some o) (hC : ∀ s, o = .inl s → pw l (px_R 7) y_Mo_token c_Mo_token 2 none 0 [(0, .inr (some (0, 0, 0)))] [] ids mG s 0 0 Rt) (hX0 : ∀ e, o = .inr e → pw l (px_R 7) y_Mo_token c_Mo_token 2 none 31 [(0, .inr (some (0, 0, 0)))] [] ids mG e 0 0 Rt) : pw l (px_R 7) y_Mo_token c_Mo_token 2 none 18 [(0, .inr (some (0, 0, 0)))] [] ids mG σ 0 0 Rt := by
  unfold Mo_token_n18 at h
  refine pw_aload_n 0 (px_at td_Mo_token 8 rfl) rfl rfl ?_
  refine pw_dup (px_at td_Mo_token 9 rfl) ?_
  refine pw_getf (v := .inl (σ (0, 0, 0) 18)) (px_at td_Mo_token 10 rfl) lf_Mo_105 rfl rfl rfl ?_
  refine pw_iconst (v := 1) (px_at td_Mo_token 11 rfl) (by decide) ?_
  refine pw_iadd (px_at td_Mo_token 12 rfl) ?_
  obtain ⟨σ2, hσ2, h⟩ := px_l_e h
  refine pw_puti (px_at td_Mo_token 13 rfl) lw_Mo_105 rfl rfl (pw_s hσ2 ?_)
  refine pw_goto 0 (px_at td_Mo_token 14 rfl) (by decide) ?_
  exact hC σ2 (Option.some.inj h).symm
def Mo_token_n0 (σ : pxS)  : Option ((pxS) ⊕ (pxS)) :=
  px_b1 (F_Mo_here σ ) fun r1 =>
  (if r1 = 10 then Mo_token_n18 σ  else px_b1 (F_Mo_here σ ) fun r3 =>
  (if r3 = 32 then Mo_token_n18 σ  else some (.inr σ)))
set_option maxRecDepth 100000 in
theorem Mo_token_n0_l {l : Launch} {ids : List pxI} {Rt : Option pxV → List pxI → pxG → pxS → Prop} {σ : pxS}  {o : (pxS) ⊕ (pxS)} (h : Mo_token_n0 σ  = some o) (hC : ∀ s, o = .inl s → pw l (px_R 7) y_Mo_token c_Mo_token 2 none 0 [(0, .inr (some (0, 0, 0)))] [] ids mG s 0 0 Rt) (hX0 : ∀ e, o = .inr e → pw l (px_R 7) y_Mo_token c_Mo_token 2 none 31 [(0, .inr (some (0, 0, 0)))] [] ids mG e 0 0 Rt) : pw l (px_R 7) y_Mo_token c_Mo_token 2 none 0 [(0, .inr (some (0, 0, 0)))] [] ids mG σ 0 0 Rt := by
  unfold Mo_token_n0 at h
  refine pw_aload_n 0 (px_at td_Mo_token 0 rfl) rfl rfl ?_
  obtain ⟨r1, hk1, h⟩ := px_b1_e h
  refine pw_cV1 (0, 0, 0) [] [] (px_at td_Mo_token 1 rfl) lV_Mo_111 rfl rfl rfl (Nat.le_of_ble_eq_true rfl) (by decide) (k_Mo_here hk1) ?_
  refine pw_bipush (v := 10) (px_at td_Mo_token 2 rfl) (by decide) ?_
  rcases px_ite h with ⟨hc5, h⟩ | ⟨hc5, h⟩
  · refine pw_icmp_eq 18 (px_at td_Mo_token 3 rfl) (by decide) (fun _ => ?_) (fun hn => absurd hc5 hn)
    exact Mo_token_n18_l h hC hX0
  · refine pw_icmp_eq 18 (px_at td_Mo_token 3 rfl) (by decide) (fun hn => absurd hn hc5) (fun _ => ?_)
    refine pw_aload_n 0 (px_at td_Mo_token 4 rfl) rfl rfl ?_
    obtain ⟨r3, hk3, h⟩ := px_b1_e h
    refine pw_cV1 (0, 0, 0) [] [] (px_at td_Mo_token 5 rfl) lV_Mo_111 rfl rfl rfl (Nat.le_of_ble_eq_true rfl) (by decide) (k_Mo_here hk3) ?_
    refine pw_bipush (v := 32) (px_at td_Mo_token 6 rfl) (by decide) ?_
    rcases px_ite h with ⟨hc4, h⟩ | ⟨hc4, h⟩
    · refine pw_icmp_ne 31 (px_at td_Mo_token 7 rfl) (by decide) (fun hn => absurd hc4 hn) (fun _ => ?_)
      exact Mo_token_n18_l h hC hX0
    · refine pw_icmp_ne 31 (px_at td_Mo_token 7 rfl) (by decide) (fun _ => ?_) (fun hn => absurd hn hc4)
      exact hX0 σ (Option.some.inj h).symm
def Mo_token_L0  : (pxS) → Option ((pxS) ⊕ (pxS)) := fun s => Mo_token_n0 s 
set_option maxRecDepth 100000 in
theorem Mo_token_L0_l {l : Launch} {ids : List pxI} {Rt : Option pxV → List pxI → pxG → pxS → Prop}  {n : Nat} {s : pxS} {e : pxS} (h : px_it (Mo_token_L0 ) n s = some e) (hX0 : pw l (px_R 7) y_Mo_token c_Mo_token 2 none 31 [(0, .inr (some (0, 0, 0)))] [] ids mG e 0 0 Rt) : pw l (px_R 7) y_Mo_token c_Mo_token 2 none 0 [(0, .inr (some (0, 0, 0)))] [] ids mG s 0 0 Rt := by
  refine px_it_rule (f := Mo_token_L0 ) (C := fun s => pw l (px_R 7) y_Mo_token c_Mo_token 2 none 0 [(0, .inr (some (0, 0, 0)))] [] ids mG s 0 0 Rt) (X := fun e => (pw l (px_R 7) y_Mo_token c_Mo_token 2 none 31 [(0, .inr (some (0, 0, 0)))] [] ids mG e 0 0 Rt)) ?_ ?_ n s e h hX0
  · intro s s1 hf hC
    exact Mo_token_n0_l hf (fun s2 hs => by cases hs; exact hC) (fun e he => by cases he)
  · intro s e hf hX
    exact Mo_token_n0_l hf (fun s2 hs => by cases hs) (fun e1 he => by cases he; exact hX)
def Mo_token_n162 (σ : pxS)  : Option ((pxS) ⊕ (pxS)) :=
  px_b1 (F_Mo_here σ ) fun r18 =>
  px_b1 (F_Mo_isDigit σ r18) fun r19 =>
  (if r19 = 0 then some (.inr σ) else (if (σ (0, 0, 0) 21) ≤ 999999 then px_b1 (F_Mo_here σ ) fun r20 =>
  px_l (px_up σ (0, 0, 0) 21 (((10 * (σ (0, 0, 0) 21)) + r20) - 48)) fun σ21 =>
  px_l (px_up σ21 (0, 0, 0) 18 ((σ21 (0, 0, 0) 18) + 1)) fun σ22 =>
  some (.inl σ22) else px_l (px_up σ (0, 0, 0) 21 (σ (0, 0, 0) 21)) fun σ23 =>
  px_l (px_up σ23 (0, 0, 0) 18 ((σ23 (0, 0, 0) 18) + 1)) fun σ24 =>
  some (.inl σ24)))
set_option maxRecDepth 100000 in
theorem Mo_token_n162_l {l : Launch} {ids : List pxI} {Rt : Option pxV → List pxI → pxG → pxS → Prop} {σ : pxS}  {o : (pxS) ⊕ (pxS)} (h : Mo_token_n162 σ  = some o) (hC : ∀ s, o = .inl s → pw l (px_R 7) y_Mo_token c_Mo_token 2 none 162 [(0, .inr (some (0, 0, 0)))] [] ids mG s 0 0 Rt) (hX0 : ∀ e, o = .inr e → pw l (px_R 7) y_Mo_token c_Mo_token 2 none 245 [] [] ids mG e 0 0 Rt) : pw l (px_R 7) y_Mo_token c_Mo_token 2 none 162 [(0, .inr (some (0, 0, 0)))] [] ids mG σ 0 0 Rt := by
  unfold Mo_token_n162 at h
  refine pw_aload_n 0 (px_at td_Mo_token 81 rfl) rfl rfl ?_
  obtain ⟨r18, hk18, h⟩ := px_b1_e h
  refine pw_cV1 (0, 0, 0) [] [] (px_at td_Mo_token 82 rfl) lV_Mo_111 rfl rfl rfl (Nat.le_of_ble_eq_true rfl) (by decide) (k_Mo_here hk18) ?_
  obtain ⟨r19, hk19, h⟩ := px_b1_e h
  refine pw_cS1 [.inl r18] [] (px_at td_Mo_token 83 rfl) lS_Mo_134 rfl rfl (Nat.le_of_ble_eq_true rfl) (by decide) (k_Mo_isDigit hk19) ?_
  rcases px_ite h with ⟨hc26, h⟩ | ⟨hc26, h⟩
  · refine pw_if_eq 245 (px_at td_Mo_token 84 rfl) (by decide) (fun _ => ?_) (fun hn => absurd hc26 hn)
    refine pw_L [] [] rfl ?_
    exact hX0 σ (Option.some.inj h).symm
  · refine pw_if_eq 245 (px_at td_Mo_token 84 rfl) (by decide) (fun hn => absurd hn hc26) (fun _ => ?_)
    refine pw_aload_n 0 (px_at td_Mo_token 85 rfl) rfl rfl ?_
    refine pw_aload_n 0 (px_at td_Mo_token 86 rfl) rfl rfl ?_
    refine pw_getf (v := .inl (σ (0, 0, 0) 21)) (px_at td_Mo_token 87 rfl) lf_Mo_128 rfl rfl rfl ?_
    refine pw_ldc (v := 999999) (px_at td_Mo_token 88 rfl) lc_Mo_137 ?_
    rcases px_ite h with ⟨hc25, h⟩ | ⟨hc25, h⟩
    · refine pw_icmp_le 189 (px_at td_Mo_token 89 rfl) (by decide) (fun _ => ?_) (fun hn => absurd hc25 hn)
      refine pw_bipush (v := 10) (px_at td_Mo_token 93 rfl) (by decide) ?_
      refine pw_aload_n 0 (px_at td_Mo_token 94 rfl) rfl rfl ?_
      refine pw_getf (v := .inl (σ (0, 0, 0) 21)) (px_at td_Mo_token 95 rfl) lf_Mo_128 rfl rfl rfl ?_
      refine pw_imul (px_at td_Mo_token 96 rfl) ?_
      refine pw_aload_n 0 (px_at td_Mo_token 97 rfl) rfl rfl ?_
      obtain ⟨r20, hk20, h⟩ := px_b1_e h
      refine pw_cV1 (0, 0, 0) [] [.inl (10 * (σ (0, 0, 0) 21)), .inr (some (0, 0, 0))] (px_at td_Mo_token 98 rfl) lV_Mo_111 rfl rfl rfl (Nat.le_of_ble_eq_true rfl) (by decide) (k_Mo_here hk20) ?_
      refine pw_iadd (px_at td_Mo_token 99 rfl) ?_
      refine pw_bipush (v := 48) (px_at td_Mo_token 100 rfl) (by decide) ?_
      refine pw_isub (px_at td_Mo_token 101 rfl) ?_
      obtain ⟨σ21, hσ21, h⟩ := px_l_e h
      refine pw_puti (px_at td_Mo_token 102 rfl) lw_Mo_128 rfl rfl (pw_s hσ21 ?_)
      refine pw_aload_n 0 (px_at td_Mo_token 103 rfl) rfl rfl ?_
      refine pw_dup (px_at td_Mo_token 104 rfl) ?_
      refine pw_getf (v := .inl (σ21 (0, 0, 0) 18)) (px_at td_Mo_token 105 rfl) lf_Mo_105 rfl rfl rfl ?_
      refine pw_iconst (v := 1) (px_at td_Mo_token 106 rfl) (by decide) ?_
      refine pw_iadd (px_at td_Mo_token 107 rfl) ?_
      obtain ⟨σ22, hσ22, h⟩ := px_l_e h
      refine pw_puti (px_at td_Mo_token 108 rfl) lw_Mo_105 rfl rfl (pw_s hσ22 ?_)
      refine pw_goto 162 (px_at td_Mo_token 109 rfl) (by decide) ?_
      exact hC σ22 (Option.some.inj h).symm
    · refine pw_icmp_le 189 (px_at td_Mo_token 89 rfl) (by decide) (fun hn => absurd hn hc25) (fun _ => ?_)
      refine pw_aload_n 0 (px_at td_Mo_token 90 rfl) rfl rfl ?_
      refine pw_getf (v := .inl (σ (0, 0, 0) 21)) (px_at td_Mo_token 91 rfl) lf_Mo_128 rfl rfl rfl ?_
      refine pw_goto 204 (px_at td_Mo_token 92 rfl) (by decide) ?_
      obtain ⟨σ23, hσ23, h⟩ := px_l_e h
      refine pw_puti (px_at td_Mo_token 102 rfl) lw_Mo_128 rfl rfl (pw_s hσ23 ?_)
      refine pw_aload_n 0 (px_at td_Mo_token 103 rfl) rfl rfl ?_
      refine pw_dup (px_at td_Mo_token 104 rfl) ?_
      refine pw_getf (v := .inl (σ23 (0, 0, 0) 18)) (px_at td_Mo_token 105 rfl) lf_Mo_105 rfl rfl rfl ?_
      refine pw_iconst (v := 1) (px_at td_Mo_token 106 rfl) (by decide) ?_
      refine pw_iadd (px_at td_Mo_token 107 rfl) ?_
      obtain ⟨σ24, hσ24, h⟩ := px_l_e h
      refine pw_puti (px_at td_Mo_token 108 rfl) lw_Mo_105 rfl rfl (pw_s hσ24 ?_)
      refine pw_goto 162 (px_at td_Mo_token 109 rfl) (by decide) ?_
      exact hC σ24 (Option.some.inj h).symm
def Mo_token_L162  : (pxS) → Option ((pxS) ⊕ (pxS)) := fun s => Mo_token_n162 s 
set_option maxRecDepth 100000 in
theorem Mo_token_L162_l {l : Launch} {ids : List pxI} {Rt : Option pxV → List pxI → pxG → pxS → Prop}  {n : Nat} {s : pxS} {e : pxS} (h : px_it (Mo_token_L162 ) n s = some e) (hX0 : pw l (px_R 7) y_Mo_token c_Mo_token 2 none 245 [] [] ids mG e 0 0 Rt) : pw l (px_R 7) y_Mo_token c_Mo_token 2 none 162 [(0, .inr (some (0, 0, 0)))] [] ids mG s 0 0 Rt := by
  refine px_it_rule (f := Mo_token_L162 ) (C := fun s => pw l (px_R 7) y_Mo_token c_Mo_token 2 none 162 [(0, .inr (some (0, 0, 0)))] [] ids mG s 0 0 Rt) (X := fun e => (pw l (px_R 7) y_Mo_token c_Mo_token 2 none 245 [] [] ids mG e 0 0 Rt)) ?_ ?_ n s e h hX0
  · intro s s1 hf hC
    exact Mo_token_n162_l hf (fun s2 hs => by cases hs; exact hC) (fun e he => by cases he)
  · intro s e hf hX
    exact Mo_token_n162_l hf (fun s2 hs => by cases hs) (fun e1 he => by cases he; exact hX)
def Mo_token_n64 (σ : pxS)  : Option ((pxS) ⊕ (pxS)) :=
  px_b1 (F_Mo_here σ ) fun r29 =>
  px_b1 (F_Mo_isSmall σ r29) fun r30 =>
  (if r30 = 0 then some (.inr σ) else px_l (px_up σ (0, 0, 0) 18 ((σ (0, 0, 0) 18) + 1)) fun σ31 =>
  some (.inl σ31))
set_option maxRecDepth 100000 in
theorem Mo_token_n64_l {l : Launch} {ids : List pxI} {Rt : Option pxV → List pxI → pxG → pxS → Prop} {σ : pxS}  {o : (pxS) ⊕ (pxS)} (h : Mo_token_n64 σ  = some o) (hC : ∀ s, o = .inl s → pw l (px_R 7) y_Mo_token c_Mo_token 2 none 64 [(0, .inr (some (0, 0, 0)))] [] ids mG s 0 0 Rt) (hX0 : ∀ e, o = .inr e → pw l (px_R 7) y_Mo_token c_Mo_token 2 none 87 [(0, .inr (some (0, 0, 0)))] [] ids mG e 0 0 Rt) : pw l (px_R 7) y_Mo_token c_Mo_token 2 none 64 [(0, .inr (some (0, 0, 0)))] [] ids mG σ 0 0 Rt := by
  unfold Mo_token_n64 at h
  refine pw_aload_n 0 (px_at td_Mo_token 32 rfl) rfl rfl ?_
  obtain ⟨r29, hk29, h⟩ := px_b1_e h
  refine pw_cV1 (0, 0, 0) [] [] (px_at td_Mo_token 33 rfl) lV_Mo_111 rfl rfl rfl (Nat.le_of_ble_eq_true rfl) (by decide) (k_Mo_here hk29) ?_
  obtain ⟨r30, hk30, h⟩ := px_b1_e h
  refine pw_cS1 [.inl r29] [] (px_at td_Mo_token 34 rfl) lS_Mo_121 rfl rfl (Nat.le_of_ble_eq_true rfl) (by decide) (k_Mo_isSmall hk30) ?_
  rcases px_ite h with ⟨hc32, h⟩ | ⟨hc32, h⟩
  · refine pw_if_eq 87 (px_at td_Mo_token 35 rfl) (by decide) (fun _ => ?_) (fun hn => absurd hc32 hn)
    exact hX0 σ (Option.some.inj h).symm
  · refine pw_if_eq 87 (px_at td_Mo_token 35 rfl) (by decide) (fun hn => absurd hn hc32) (fun _ => ?_)
    refine pw_aload_n 0 (px_at td_Mo_token 36 rfl) rfl rfl ?_
    refine pw_dup (px_at td_Mo_token 37 rfl) ?_
    refine pw_getf (v := .inl (σ (0, 0, 0) 18)) (px_at td_Mo_token 38 rfl) lf_Mo_105 rfl rfl rfl ?_
    refine pw_iconst (v := 1) (px_at td_Mo_token 39 rfl) (by decide) ?_
    refine pw_iadd (px_at td_Mo_token 40 rfl) ?_
    obtain ⟨σ31, hσ31, h⟩ := px_l_e h
    refine pw_puti (px_at td_Mo_token 41 rfl) lw_Mo_105 rfl rfl (pw_s hσ31 ?_)
    refine pw_goto 64 (px_at td_Mo_token 42 rfl) (by decide) ?_
    exact hC σ31 (Option.some.inj h).symm
def Mo_token_L64  : (pxS) → Option ((pxS) ⊕ (pxS)) := fun s => Mo_token_n64 s 
set_option maxRecDepth 100000 in
theorem Mo_token_L64_l {l : Launch} {ids : List pxI} {Rt : Option pxV → List pxI → pxG → pxS → Prop}  {n : Nat} {s : pxS} {e : pxS} (h : px_it (Mo_token_L64 ) n s = some e) (hX0 : pw l (px_R 7) y_Mo_token c_Mo_token 2 none 87 [(0, .inr (some (0, 0, 0)))] [] ids mG e 0 0 Rt) : pw l (px_R 7) y_Mo_token c_Mo_token 2 none 64 [(0, .inr (some (0, 0, 0)))] [] ids mG s 0 0 Rt := by
  refine px_it_rule (f := Mo_token_L64 ) (C := fun s => pw l (px_R 7) y_Mo_token c_Mo_token 2 none 64 [(0, .inr (some (0, 0, 0)))] [] ids mG s 0 0 Rt) (X := fun e => (pw l (px_R 7) y_Mo_token c_Mo_token 2 none 87 [(0, .inr (some (0, 0, 0)))] [] ids mG e 0 0 Rt)) ?_ ?_ n s e h hX0
  · intro s s1 hf hC
    exact Mo_token_n64_l hf (fun s2 hs => by cases hs; exact hC) (fun e he => by cases he)
  · intro s e hf hX
    exact Mo_token_n64_l hf (fun s2 hs => by cases hs) (fun e1 he => by cases he; exact hX)
def F_Mo_token (σ : pxS)  : Option (pxS) :=
  px_b1 (px_it (Mo_token_L0 ) px_N σ) fun e6 =>
  px_l (px_up e6 (0, 0, 0) 19 (e6 (0, 0, 0) 18)) fun σ7 =>
  px_b1 (F_Mo_here σ7 ) fun r8 =>
  (if r8 = (-1) then px_l (px_up σ7 (0, 0, 0) 20 4) fun σ48 =>
  some σ48 else px_b1 (F_Mo_isSmall σ7 r8) fun r9 =>
  (if r9 = 0 then px_b1 (F_Mo_isDigit σ7 r8) fun r10 =>
  (if r10 = 0 then (if r8 = 59 then px_l (px_up σ7 (0, 0, 0) 20 3) fun σ13 =>
  px_l (px_up σ13 (0, 0, 0) 18 ((σ13 (0, 0, 0) 18) + 1)) fun σ14 =>
  some σ14 else px_l (px_up σ7 (0, 0, 0) 20 5) fun σ11 =>
  px_l (px_up σ11 (0, 0, 0) 18 ((σ11 (0, 0, 0) 18) + 1)) fun σ12 =>
  some σ12) else px_l (px_up σ7 (0, 0, 0) 20 2) fun σ16 =>
  px_l (px_up σ16 (0, 0, 0) 21 0) fun σ17 =>
  px_b1 (px_it (Mo_token_L162 ) px_N σ17) fun e27 =>
  some e27) else px_b1 (px_it (Mo_token_L64 ) px_N σ7) fun e33 =>
  px_b1 (F_Mo_wordHere e33 ) fun r34 =>
  px_l (px_up e33 (0, 0, 0) 21 r34) fun σ35 =>
  (if (σ35 (0, 0, 0) 21) = (-1) then (if ((σ35 (0, 0, 0) 18) - (σ35 (0, 0, 0) 19)) ≤ 6 then px_l (px_up σ35 (0, 0, 0) 20 1) fun σ36 =>
  (if (σ36 (0, 0, 0) 20) = 1 then px_b1 (F_Mo_nameHere σ36 ) fun σ37 =>
  some σ37 else some σ36) else px_l (px_up σ35 (0, 0, 0) 20 5) fun σ39 =>
  (if (σ39 (0, 0, 0) 20) = 1 then px_b1 (F_Mo_nameHere σ39 ) fun σ40 =>
  some σ40 else some σ39)) else px_l (px_up σ35 (0, 0, 0) 20 0) fun σ43 =>
  (if (σ43 (0, 0, 0) 20) = 1 then px_b1 (F_Mo_nameHere σ43 ) fun σ44 =>
  some σ44 else some σ43))))
set_option maxRecDepth 100000 in
theorem e_Mo_token {l : Launch} {ids : List pxI} {Rt : Option pxV → List pxI → pxG → pxS → Prop} {σ : pxS}  {res : pxS} (h : F_Mo_token σ  = some res) (hR : Rt none ids mG res) : pw l (px_R 7) y_Mo_token c_Mo_token 2 none 0 [(0, .inr (some (0, 0, 0)))] [] ids mG σ 0 0 Rt := by
  unfold F_Mo_token at h
  obtain ⟨e6, he6, h⟩ := px_b1_e h
  refine Mo_token_L0_l he6 ?_
  refine pw_aload_n 0 (px_at td_Mo_token 15 rfl) rfl rfl ?_
  refine pw_aload_n 0 (px_at td_Mo_token 16 rfl) rfl rfl ?_
  refine pw_getf (v := .inl (e6 (0, 0, 0) 18)) (px_at td_Mo_token 17 rfl) lf_Mo_105 rfl rfl rfl ?_
  obtain ⟨σ7, hσ7, h⟩ := px_l_e h
  refine pw_puti (px_at td_Mo_token 18 rfl) lw_Mo_115 rfl rfl (pw_s hσ7 ?_)
  refine pw_aload_n 0 (px_at td_Mo_token 19 rfl) rfl rfl ?_
  obtain ⟨r8, hk8, h⟩ := px_b1_e h
  refine pw_cV1 (0, 0, 0) [] [] (px_at td_Mo_token 20 rfl) lV_Mo_111 rfl rfl rfl (Nat.le_of_ble_eq_true rfl) (by decide) (k_Mo_here hk8) ?_
  refine pw_istore_n (L' := [(1, .inl r8), (0, .inr (some (0, 0, 0)))]) (px_at td_Mo_token 21 rfl) rfl (by decide) rfl ?_
  refine pw_iload_n 0 (px_at td_Mo_token 22 rfl) rfl rfl ?_
  refine pw_iconst (v := (-1)) (px_at td_Mo_token 23 rfl) (by decide) ?_
  rcases px_ite h with ⟨hc49, h⟩ | ⟨hc49, h⟩
  · refine pw_icmp_ne 57 (px_at td_Mo_token 24 rfl) (by decide) (fun hn => absurd hc49 hn) (fun _ => ?_)
    refine pw_aload_n 1 (px_at td_Mo_token 25 rfl) rfl rfl ?_
    refine pw_iconst (v := 4) (px_at td_Mo_token 26 rfl) (by decide) ?_
    obtain ⟨σ48, hσ48, h⟩ := px_l_e h
    refine pw_puti (px_at td_Mo_token 27 rfl) lw_Mo_118 rfl rfl (pw_s hσ48 ?_)
    refine pw_goto 245 (px_at td_Mo_token 28 rfl) (by decide) ?_
    obtain rfl := Option.some.inj h
    exact pw_vret (px_at td_Mo_token 124 rfl) rfl (Nat.le_refl 0) (Nat.le_refl 0) hR
  · refine pw_icmp_ne 57 (px_at td_Mo_token 24 rfl) (by decide) (fun _ => ?_) (fun hn => absurd hn hc49)
    refine pw_iload_n 0 (px_at td_Mo_token 29 rfl) rfl rfl ?_
    obtain ⟨r9, hk9, h⟩ := px_b1_e h
    refine pw_cS1 [.inl r8] [] (px_at td_Mo_token 30 rfl) lS_Mo_121 rfl rfl (Nat.le_of_ble_eq_true rfl) (by decide) (k_Mo_isSmall hk9) ?_
    rcases px_ite h with ⟨hc47, h⟩ | ⟨hc47, h⟩
    · refine pw_if_eq 145 (px_at td_Mo_token 31 rfl) (by decide) (fun _ => ?_) (fun hn => absurd hc47 hn)
      refine pw_iload_n 0 (px_at td_Mo_token 72 rfl) rfl rfl ?_
      obtain ⟨r10, hk10, h⟩ := px_b1_e h
      refine pw_cS1 [.inl r8] [] (px_at td_Mo_token 73 rfl) lS_Mo_134 rfl rfl (Nat.le_of_ble_eq_true rfl) (by decide) (k_Mo_isDigit hk10) ?_
      rcases px_ite h with ⟨hc28, h⟩ | ⟨hc28, h⟩
      · refine pw_if_eq 220 (px_at td_Mo_token 74 rfl) (by decide) (fun _ => ?_) (fun hn => absurd hc28 hn)
        refine pw_aload_n 1 (px_at td_Mo_token 110 rfl) rfl rfl ?_
        refine pw_iload_n 0 (px_at td_Mo_token 111 rfl) rfl rfl ?_
        refine pw_bipush (v := 59) (px_at td_Mo_token 112 rfl) (by decide) ?_
        rcases px_ite h with ⟨hc15, h⟩ | ⟨hc15, h⟩
        · refine pw_icmp_ne 231 (px_at td_Mo_token 113 rfl) (by decide) (fun hn => absurd hc15 hn) (fun _ => ?_)
          refine pw_iconst (v := 3) (px_at td_Mo_token 114 rfl) (by decide) ?_
          refine pw_goto 232 (px_at td_Mo_token 115 rfl) (by decide) ?_
          obtain ⟨σ13, hσ13, h⟩ := px_l_e h
          refine pw_puti (px_at td_Mo_token 117 rfl) lw_Mo_118 rfl rfl (pw_s hσ13 ?_)
          refine pw_aload_n 1 (px_at td_Mo_token 118 rfl) rfl rfl ?_
          refine pw_dup (px_at td_Mo_token 119 rfl) ?_
          refine pw_getf (v := .inl (σ13 (0, 0, 0) 18)) (px_at td_Mo_token 120 rfl) lf_Mo_105 rfl rfl rfl ?_
          refine pw_iconst (v := 1) (px_at td_Mo_token 121 rfl) (by decide) ?_
          refine pw_iadd (px_at td_Mo_token 122 rfl) ?_
          obtain ⟨σ14, hσ14, h⟩ := px_l_e h
          refine pw_puti (px_at td_Mo_token 123 rfl) lw_Mo_105 rfl rfl (pw_s hσ14 ?_)
          obtain rfl := Option.some.inj h
          exact pw_vret (px_at td_Mo_token 124 rfl) rfl (Nat.le_refl 0) (Nat.le_refl 0) hR
        · refine pw_icmp_ne 231 (px_at td_Mo_token 113 rfl) (by decide) (fun _ => ?_) (fun hn => absurd hn hc15)
          refine pw_iconst (v := 5) (px_at td_Mo_token 116 rfl) (by decide) ?_
          obtain ⟨σ11, hσ11, h⟩ := px_l_e h
          refine pw_puti (px_at td_Mo_token 117 rfl) lw_Mo_118 rfl rfl (pw_s hσ11 ?_)
          refine pw_aload_n 1 (px_at td_Mo_token 118 rfl) rfl rfl ?_
          refine pw_dup (px_at td_Mo_token 119 rfl) ?_
          refine pw_getf (v := .inl (σ11 (0, 0, 0) 18)) (px_at td_Mo_token 120 rfl) lf_Mo_105 rfl rfl rfl ?_
          refine pw_iconst (v := 1) (px_at td_Mo_token 121 rfl) (by decide) ?_
          refine pw_iadd (px_at td_Mo_token 122 rfl) ?_
          obtain ⟨σ12, hσ12, h⟩ := px_l_e h
          refine pw_puti (px_at td_Mo_token 123 rfl) lw_Mo_105 rfl rfl (pw_s hσ12 ?_)
          obtain rfl := Option.some.inj h
          exact pw_vret (px_at td_Mo_token 124 rfl) rfl (Nat.le_refl 0) (Nat.le_refl 0) hR
      · refine pw_if_eq 220 (px_at td_Mo_token 74 rfl) (by decide) (fun hn => absurd hn hc28) (fun _ => ?_)
        refine pw_aload_n 1 (px_at td_Mo_token 75 rfl) rfl rfl ?_
        refine pw_iconst (v := 2) (px_at td_Mo_token 76 rfl) (by decide) ?_
        obtain ⟨σ16, hσ16, h⟩ := px_l_e h
        refine pw_puti (px_at td_Mo_token 77 rfl) lw_Mo_118 rfl rfl (pw_s hσ16 ?_)
        refine pw_aload_n 1 (px_at td_Mo_token 78 rfl) rfl rfl ?_
        refine pw_iconst (v := 0) (px_at td_Mo_token 79 rfl) (by decide) ?_
        obtain ⟨σ17, hσ17, h⟩ := px_l_e h
        refine pw_puti (px_at td_Mo_token 80 rfl) lw_Mo_128 rfl rfl (pw_s hσ17 ?_)
        obtain ⟨e27, he27, h⟩ := px_b1_e h
        refine pw_L [(0, .inr (some (0, 0, 0)))] [1] rfl ?_
        refine Mo_token_L162_l he27 ?_
        obtain rfl := Option.some.inj h
        exact pw_vret (px_at td_Mo_token 124 rfl) rfl (Nat.le_refl 0) (Nat.le_refl 0) hR
    · refine pw_if_eq 145 (px_at td_Mo_token 31 rfl) (by decide) (fun hn => absurd hn hc47) (fun _ => ?_)
      obtain ⟨e33, he33, h⟩ := px_b1_e h
      refine pw_L [(0, .inr (some (0, 0, 0)))] [1] rfl ?_
      refine Mo_token_L64_l he33 ?_
      refine pw_aload_n 0 (px_at td_Mo_token 43 rfl) rfl rfl ?_
      refine pw_aload_n 0 (px_at td_Mo_token 44 rfl) rfl rfl ?_
      obtain ⟨r34, hk34, h⟩ := px_b1_e h
      refine pw_cV1 (0, 0, 0) [] [.inr (some (0, 0, 0))] (px_at td_Mo_token 45 rfl) lV_Mo_125 rfl rfl rfl (Nat.le_of_ble_eq_true rfl) (by decide) (k_Mo_wordHere hk34) ?_
      obtain ⟨σ35, hσ35, h⟩ := px_l_e h
      refine pw_puti (px_at td_Mo_token 46 rfl) lw_Mo_128 rfl rfl (pw_s hσ35 ?_)
      refine pw_aload_n 0 (px_at td_Mo_token 47 rfl) rfl rfl ?_
      refine pw_aload_n 0 (px_at td_Mo_token 48 rfl) rfl rfl ?_
      refine pw_getf (v := .inl (σ35 (0, 0, 0) 21)) (px_at td_Mo_token 49 rfl) lf_Mo_128 rfl rfl rfl ?_
      refine pw_iconst (v := (-1)) (px_at td_Mo_token 50 rfl) (by decide) ?_
      rcases px_ite h with ⟨hc46, h⟩ | ⟨hc46, h⟩
      · refine pw_icmp_eq 108 (px_at td_Mo_token 51 rfl) (by decide) (fun _ => ?_) (fun hn => absurd hc46 hn)
        refine pw_aload_n 0 (px_at td_Mo_token 54 rfl) rfl rfl ?_
        refine pw_getf (v := .inl (σ35 (0, 0, 0) 18)) (px_at td_Mo_token 55 rfl) lf_Mo_105 rfl rfl rfl ?_
        refine pw_aload_n 0 (px_at td_Mo_token 56 rfl) rfl rfl ?_
        refine pw_getf (v := .inl (σ35 (0, 0, 0) 19)) (px_at td_Mo_token 57 rfl) lf_Mo_115 rfl rfl rfl ?_
        refine pw_isub (px_at td_Mo_token 58 rfl) ?_
        refine pw_bipush (v := 6) (px_at td_Mo_token 59 rfl) (by decide) ?_
        rcases px_ite h with ⟨hc42, h⟩ | ⟨hc42, h⟩
        · refine pw_icmp_le 126 (px_at td_Mo_token 60 rfl) (by decide) (fun _ => ?_) (fun hn => absurd hc42 hn)
          refine pw_iconst (v := 1) (px_at td_Mo_token 63 rfl) (by decide) ?_
          obtain ⟨σ36, hσ36, h⟩ := px_l_e h
          refine pw_puti (px_at td_Mo_token 64 rfl) lw_Mo_118 rfl rfl (pw_s hσ36 ?_)
          refine pw_aload_n 0 (px_at td_Mo_token 65 rfl) rfl rfl ?_
          refine pw_getf (v := .inl (σ36 (0, 0, 0) 20)) (px_at td_Mo_token 66 rfl) lf_Mo_118 rfl rfl rfl ?_
          refine pw_iconst (v := 1) (px_at td_Mo_token 67 rfl) (by decide) ?_
          rcases px_ite h with ⟨hc38, h⟩ | ⟨hc38, h⟩
          · refine pw_icmp_ne 245 (px_at td_Mo_token 68 rfl) (by decide) (fun hn => absurd hc38 hn) (fun _ => ?_)
            refine pw_aload_n 0 (px_at td_Mo_token 69 rfl) rfl rfl ?_
            obtain ⟨σ37, hk37, h⟩ := px_b1_e h
            refine pw_cV0 (0, 0, 0) [] [] (px_at td_Mo_token 70 rfl) lV_Mo_131 rfl rfl rfl (Nat.le_of_ble_eq_true rfl) (by decide) (k_Mo_nameHere hk37) ?_
            refine pw_goto 245 (px_at td_Mo_token 71 rfl) (by decide) ?_
            obtain rfl := Option.some.inj h
            exact pw_vret (px_at td_Mo_token 124 rfl) rfl (Nat.le_refl 0) (Nat.le_refl 0) hR
          · refine pw_icmp_ne 245 (px_at td_Mo_token 68 rfl) (by decide) (fun _ => ?_) (fun hn => absurd hn hc38)
            obtain rfl := Option.some.inj h
            exact pw_vret (px_at td_Mo_token 124 rfl) rfl (Nat.le_refl 0) (Nat.le_refl 0) hR
        · refine pw_icmp_le 126 (px_at td_Mo_token 60 rfl) (by decide) (fun hn => absurd hn hc42) (fun _ => ?_)
          refine pw_iconst (v := 5) (px_at td_Mo_token 61 rfl) (by decide) ?_
          refine pw_goto 127 (px_at td_Mo_token 62 rfl) (by decide) ?_
          obtain ⟨σ39, hσ39, h⟩ := px_l_e h
          refine pw_puti (px_at td_Mo_token 64 rfl) lw_Mo_118 rfl rfl (pw_s hσ39 ?_)
          refine pw_aload_n 0 (px_at td_Mo_token 65 rfl) rfl rfl ?_
          refine pw_getf (v := .inl (σ39 (0, 0, 0) 20)) (px_at td_Mo_token 66 rfl) lf_Mo_118 rfl rfl rfl ?_
          refine pw_iconst (v := 1) (px_at td_Mo_token 67 rfl) (by decide) ?_
          rcases px_ite h with ⟨hc41, h⟩ | ⟨hc41, h⟩
          · refine pw_icmp_ne 245 (px_at td_Mo_token 68 rfl) (by decide) (fun hn => absurd hc41 hn) (fun _ => ?_)
            refine pw_aload_n 0 (px_at td_Mo_token 69 rfl) rfl rfl ?_
            obtain ⟨σ40, hk40, h⟩ := px_b1_e h
            refine pw_cV0 (0, 0, 0) [] [] (px_at td_Mo_token 70 rfl) lV_Mo_131 rfl rfl rfl (Nat.le_of_ble_eq_true rfl) (by decide) (k_Mo_nameHere hk40) ?_
            refine pw_goto 245 (px_at td_Mo_token 71 rfl) (by decide) ?_
            obtain rfl := Option.some.inj h
            exact pw_vret (px_at td_Mo_token 124 rfl) rfl (Nat.le_refl 0) (Nat.le_refl 0) hR
          · refine pw_icmp_ne 245 (px_at td_Mo_token 68 rfl) (by decide) (fun _ => ?_) (fun hn => absurd hn hc41)
            obtain rfl := Option.some.inj h
            exact pw_vret (px_at td_Mo_token 124 rfl) rfl (Nat.le_refl 0) (Nat.le_refl 0) hR
      · refine pw_icmp_eq 108 (px_at td_Mo_token 51 rfl) (by decide) (fun hn => absurd hn hc46) (fun _ => ?_)
        refine pw_iconst (v := 0) (px_at td_Mo_token 52 rfl) (by decide) ?_
        refine pw_goto 127 (px_at td_Mo_token 53 rfl) (by decide) ?_
        obtain ⟨σ43, hσ43, h⟩ := px_l_e h
        refine pw_puti (px_at td_Mo_token 64 rfl) lw_Mo_118 rfl rfl (pw_s hσ43 ?_)
        refine pw_aload_n 0 (px_at td_Mo_token 65 rfl) rfl rfl ?_
        refine pw_getf (v := .inl (σ43 (0, 0, 0) 20)) (px_at td_Mo_token 66 rfl) lf_Mo_118 rfl rfl rfl ?_
        refine pw_iconst (v := 1) (px_at td_Mo_token 67 rfl) (by decide) ?_
        rcases px_ite h with ⟨hc45, h⟩ | ⟨hc45, h⟩
        · refine pw_icmp_ne 245 (px_at td_Mo_token 68 rfl) (by decide) (fun hn => absurd hc45 hn) (fun _ => ?_)
          refine pw_aload_n 0 (px_at td_Mo_token 69 rfl) rfl rfl ?_
          obtain ⟨σ44, hk44, h⟩ := px_b1_e h
          refine pw_cV0 (0, 0, 0) [] [] (px_at td_Mo_token 70 rfl) lV_Mo_131 rfl rfl rfl (Nat.le_of_ble_eq_true rfl) (by decide) (k_Mo_nameHere hk44) ?_
          refine pw_goto 245 (px_at td_Mo_token 71 rfl) (by decide) ?_
          obtain rfl := Option.some.inj h
          exact pw_vret (px_at td_Mo_token 124 rfl) rfl (Nat.le_refl 0) (Nat.le_refl 0) hR
        · refine pw_icmp_ne 245 (px_at td_Mo_token 68 rfl) (by decide) (fun _ => ?_) (fun hn => absurd hn hc45)
          obtain rfl := Option.some.inj h
          exact pw_vret (px_at td_Mo_token 124 rfl) rfl (Nat.le_refl 0) (Nat.le_refl 0) hR
theorem k_Mo_token {l : Launch} {ids : List pxI} {σ : pxS}  {res : pxS} (h : F_Mo_token σ  = some res) : pm l y_Mo_token c_Mo_token 2 none (px_R 7) [.inr (some (0, 0, 0))] ids mG σ (px_r none ids mG res) :=
  pm_ofF (by decide +kernel) (Nat.le_of_ble_eq_true rfl) (e_Mo_token h ⟨rfl, rfl, rfl, rfl⟩)
/-! Mo_wrong -/
def F_Mo_wrong (σ : pxS) (v1 : Int32) : Option (pxS) :=
  (if (σ (0, 0, 0) 22) = 0 then px_l (px_up σ (0, 0, 0) 22 v1) fun σ1 =>
  px_l (px_up σ1 (0, 0, 0) 23 (σ1 (0, 0, 0) 19)) fun σ2 =>
  some σ2 else some σ)
set_option maxRecDepth 100000 in
theorem e_Mo_wrong {l : Launch} {ids : List pxI} {Rt : Option pxV → List pxI → pxG → pxS → Prop} {σ : pxS} {v1 : Int32} {res : pxS} (h : F_Mo_wrong σ v1 = some res) (hR : Rt none ids mG res) : pw l (px_R 1) y_Mo_wrong c_Mo_wrong 2 none 0 [(0, .inr (some (0, 0, 0))), (1, .inl v1)] [] ids mG σ 0 0 Rt := by
  unfold F_Mo_wrong at h
  refine pw_aload_n 0 (px_at td_Mo_wrong 0 rfl) rfl rfl ?_
  refine pw_getf (v := .inl (σ (0, 0, 0) 22)) (px_at td_Mo_wrong 1 rfl) lf_Mo_149 rfl rfl rfl ?_
  rcases px_ite h with ⟨hc3, h⟩ | ⟨hc3, h⟩
  · refine pw_if_eq 8 (px_at td_Mo_wrong 2 rfl) (by decide) (fun _ => ?_) (fun hn => absurd hc3 hn)
    refine pw_aload_n 0 (px_at td_Mo_wrong 4 rfl) rfl rfl ?_
    refine pw_iload_n 1 (px_at td_Mo_wrong 5 rfl) rfl rfl ?_
    obtain ⟨σ1, hσ1, h⟩ := px_l_e h
    refine pw_puti (px_at td_Mo_wrong 6 rfl) lw_Mo_149 rfl rfl (pw_s hσ1 ?_)
    refine pw_aload_n 0 (px_at td_Mo_wrong 7 rfl) rfl rfl ?_
    refine pw_aload_n 0 (px_at td_Mo_wrong 8 rfl) rfl rfl ?_
    refine pw_getf (v := .inl (σ1 (0, 0, 0) 19)) (px_at td_Mo_wrong 9 rfl) lf_Mo_115 rfl rfl rfl ?_
    obtain ⟨σ2, hσ2, h⟩ := px_l_e h
    refine pw_puti (px_at td_Mo_wrong 10 rfl) lw_Mo_152 rfl rfl (pw_s hσ2 ?_)
    obtain rfl := Option.some.inj h
    exact pw_vret (px_at td_Mo_wrong 11 rfl) rfl (Nat.le_refl 0) (Nat.le_refl 0) hR
  · refine pw_if_eq 8 (px_at td_Mo_wrong 2 rfl) (by decide) (fun hn => absurd hn hc3) (fun _ => ?_)
    obtain rfl := Option.some.inj h
    exact pw_vret (px_at td_Mo_wrong 3 rfl) rfl (Nat.le_refl 0) (Nat.le_refl 0) hR
theorem k_Mo_wrong {l : Launch} {ids : List pxI} {σ : pxS} {v1 : Int32} {res : pxS} (h : F_Mo_wrong σ v1 = some res) : pm l y_Mo_wrong c_Mo_wrong 2 none (px_R 1) [.inr (some (0, 0, 0)), .inl v1] ids mG σ (px_r none ids mG res) :=
  pm_ofF (by decide +kernel) (Nat.le_of_ble_eq_true rfl) (e_Mo_wrong h ⟨rfl, rfl, rfl, rfl⟩)
/-! Mo_goOn -/
def F_Mo_goOn (σ : pxS)  : Option (pxS) :=
  (if (σ (0, 0, 0) 22) = 0 then px_b1 (F_Mo_token σ ) fun σ1 =>
  some σ1 else some σ)
set_option maxRecDepth 100000 in
theorem e_Mo_goOn {l : Launch} {ids : List pxI} {Rt : Option pxV → List pxI → pxG → pxS → Prop} {σ : pxS}  {res : pxS} (h : F_Mo_goOn σ  = some res) (hR : Rt none ids mG res) : pw l (px_R 8) y_Mo_goOn c_Mo_goOn 1 none 0 [(0, .inr (some (0, 0, 0)))] [] ids mG σ 0 0 Rt := by
  unfold F_Mo_goOn at h
  refine pw_aload_n 0 (px_at td_Mo_goOn 0 rfl) rfl rfl ?_
  refine pw_getf (v := .inl (σ (0, 0, 0) 22)) (px_at td_Mo_goOn 1 rfl) lf_Mo_149 rfl rfl rfl ?_
  rcases px_ite h with ⟨hc2, h⟩ | ⟨hc2, h⟩
  · refine pw_if_ne 11 (px_at td_Mo_goOn 2 rfl) (by decide) (fun hn => absurd hc2 hn) (fun _ => ?_)
    refine pw_aload_n 0 (px_at td_Mo_goOn 3 rfl) rfl rfl ?_
    obtain ⟨σ1, hk1, h⟩ := px_b1_e h
    refine pw_cV0 (0, 0, 0) [] [] (px_at td_Mo_goOn 4 rfl) lV_Mo_155 rfl rfl rfl (Nat.le_of_ble_eq_true rfl) (by decide) (k_Mo_token hk1) ?_
    obtain rfl := Option.some.inj h
    exact pw_vret (px_at td_Mo_goOn 5 rfl) rfl (Nat.le_refl 0) (Nat.le_refl 0) hR
  · refine pw_if_ne 11 (px_at td_Mo_goOn 2 rfl) (by decide) (fun _ => ?_) (fun hn => absurd hn hc2)
    obtain rfl := Option.some.inj h
    exact pw_vret (px_at td_Mo_goOn 5 rfl) rfl (Nat.le_refl 0) (Nat.le_refl 0) hR
theorem k_Mo_goOn {l : Launch} {ids : List pxI} {σ : pxS}  {res : pxS} (h : F_Mo_goOn σ  = some res) : pm l y_Mo_goOn c_Mo_goOn 1 none (px_R 8) [.inr (some (0, 0, 0))] ids mG σ (px_r none ids mG res) :=
  pm_ofF (by decide +kernel) (Nat.le_of_ble_eq_true rfl) (e_Mo_goOn h ⟨rfl, rfl, rfl, rfl⟩)
/-! Mo_numeral -/
def Mo_numeral_n46 (σ : pxS) (v1 : Int32) : Option (Int32 × pxS) :=
  (if (σ (0, 0, 0) 22) = 0 then px_b1 (F_Mo_goOn σ ) fun σ3 =>
  some ((σ (0, 0, 0) 21), σ3) else px_b1 (F_Mo_goOn σ ) fun σ2 =>
  some (v1, σ2))
set_option maxRecDepth 100000 in
theorem Mo_numeral_n46_l {l : Launch} {ids : List pxI} {Rt : Option pxV → List pxI → pxG → pxS → Prop} {σ : pxS} {v1 : Int32} {res : Int32 × pxS} (h : Mo_numeral_n46 σ v1 = some res) (hR : Rt (some (.inl res.1)) ids mG res.2) : pw l (px_R 9) y_Mo_numeral c_Mo_numeral 4 (some .int) 46 [(0, .inr (some (0, 0, 0))), (1, .inl v1)] [] ids mG σ 0 0 Rt := by
  unfold Mo_numeral_n46 at h
  refine pw_aload_n 0 (px_at td_Mo_numeral 24 rfl) rfl rfl ?_
  refine pw_getf (v := .inl (σ (0, 0, 0) 22)) (px_at td_Mo_numeral 25 rfl) lf_Mo_149 rfl rfl rfl ?_
  rcases px_ite h with ⟨hc4, h⟩ | ⟨hc4, h⟩
  · refine pw_if_ne 60 (px_at td_Mo_numeral 26 rfl) (by decide) (fun hn => absurd hc4 hn) (fun _ => ?_)
    refine pw_aload_n 0 (px_at td_Mo_numeral 27 rfl) rfl rfl ?_
    refine pw_getf (v := .inl (σ (0, 0, 0) 21)) (px_at td_Mo_numeral 28 rfl) lf_Mo_128 rfl rfl rfl ?_
    refine pw_goto 61 (px_at td_Mo_numeral 29 rfl) (by decide) ?_
    refine pw_istore_n (L' := [(3, .inl (σ (0, 0, 0) 21)), (0, .inr (some (0, 0, 0))), (1, .inl v1)]) (px_at td_Mo_numeral 31 rfl) rfl (by decide) rfl ?_
    refine pw_aload_n 1 (px_at td_Mo_numeral 32 rfl) rfl rfl ?_
    obtain ⟨σ3, hk3, h⟩ := px_b1_e h
    refine pw_cV0 (0, 0, 0) [] [] (px_at td_Mo_numeral 33 rfl) lV_Mo_162 rfl rfl rfl (Nat.le_of_ble_eq_true rfl) (by decide) (k_Mo_goOn hk3) ?_
    refine pw_iload_n 0 (px_at td_Mo_numeral 34 rfl) rfl rfl ?_
    obtain rfl := Option.some.inj h
    exact pw_iret (px_at td_Mo_numeral 35 rfl) rfl (Nat.le_refl 0) (Nat.le_refl 0) hR
  · refine pw_if_ne 60 (px_at td_Mo_numeral 26 rfl) (by decide) (fun _ => ?_) (fun hn => absurd hn hc4)
    refine pw_iload_n 1 (px_at td_Mo_numeral 30 rfl) rfl rfl ?_
    refine pw_istore_n (L' := [(3, .inl v1), (0, .inr (some (0, 0, 0))), (1, .inl v1)]) (px_at td_Mo_numeral 31 rfl) rfl (by decide) rfl ?_
    refine pw_aload_n 1 (px_at td_Mo_numeral 32 rfl) rfl rfl ?_
    obtain ⟨σ2, hk2, h⟩ := px_b1_e h
    refine pw_cV0 (0, 0, 0) [] [] (px_at td_Mo_numeral 33 rfl) lV_Mo_162 rfl rfl rfl (Nat.le_of_ble_eq_true rfl) (by decide) (k_Mo_goOn hk2) ?_
    refine pw_iload_n 0 (px_at td_Mo_numeral 34 rfl) rfl rfl ?_
    obtain rfl := Option.some.inj h
    exact pw_iret (px_at td_Mo_numeral 35 rfl) rfl (Nat.le_refl 0) (Nat.le_refl 0) hR
def Mo_numeral_n41 (σ : pxS) (v1 : Int32) : Option (Int32 × pxS) :=
  px_b1 (F_Mo_wrong σ 2) fun σ1 =>
  Mo_numeral_n46 σ1 v1
set_option maxRecDepth 100000 in
theorem Mo_numeral_n41_l {l : Launch} {ids : List pxI} {Rt : Option pxV → List pxI → pxG → pxS → Prop} {σ : pxS} {v1 : Int32} {res : Int32 × pxS} (h : Mo_numeral_n41 σ v1 = some res) (hR : Rt (some (.inl res.1)) ids mG res.2) : pw l (px_R 9) y_Mo_numeral c_Mo_numeral 4 (some .int) 41 [(0, .inr (some (0, 0, 0))), (1, .inl v1)] [] ids mG σ 0 0 Rt := by
  unfold Mo_numeral_n41 at h
  refine pw_aload_n 0 (px_at td_Mo_numeral 21 rfl) rfl rfl ?_
  refine pw_iconst (v := 2) (px_at td_Mo_numeral 22 rfl) (by decide) ?_
  obtain ⟨σ1, hk1, h⟩ := px_b1_e h
  refine pw_cV0 (0, 0, 0) [.inl 2] [] (px_at td_Mo_numeral 23 rfl) lV_Mo_158 rfl rfl rfl (Nat.le_of_ble_eq_true rfl) (by decide) (k_Mo_wrong hk1) ?_
  exact Mo_numeral_n46_l h hR
def F_Mo_numeral (σ : pxS) (v1 : Int32) (v2 : Int32) : Option (Int32 × pxS) :=
  (if (σ (0, 0, 0) 22) = 0 then (if (σ (0, 0, 0) 20) = 2 then (if (σ (0, 0, 0) 21) < v1 then Mo_numeral_n41 σ v1 else (if (σ (0, 0, 0) 21) ≤ v2 then Mo_numeral_n46 σ v1 else Mo_numeral_n41 σ v1)) else px_b1 (F_Mo_wrong σ 1) fun σ7 =>
  Mo_numeral_n46 σ7 v1) else some (v1, σ))
set_option maxRecDepth 100000 in
theorem e_Mo_numeral {l : Launch} {ids : List pxI} {Rt : Option pxV → List pxI → pxG → pxS → Prop} {σ : pxS} {v1 : Int32} {v2 : Int32} {res : Int32 × pxS} (h : F_Mo_numeral σ v1 v2 = some res) (hR : Rt (some (.inl res.1)) ids mG res.2) : pw l (px_R 9) y_Mo_numeral c_Mo_numeral 4 (some .int) 0 [(0, .inr (some (0, 0, 0))), (1, .inl v1), (2, .inl v2)] [] ids mG σ 0 0 Rt := by
  unfold F_Mo_numeral at h
  refine pw_aload_n 0 (px_at td_Mo_numeral 0 rfl) rfl rfl ?_
  refine pw_getf (v := .inl (σ (0, 0, 0) 22)) (px_at td_Mo_numeral 1 rfl) lf_Mo_149 rfl rfl rfl ?_
  rcases px_ite h with ⟨hc9, h⟩ | ⟨hc9, h⟩
  · refine pw_if_eq 9 (px_at td_Mo_numeral 2 rfl) (by decide) (fun _ => ?_) (fun hn => absurd hc9 hn)
    refine pw_aload_n 0 (px_at td_Mo_numeral 5 rfl) rfl rfl ?_
    refine pw_getf (v := .inl (σ (0, 0, 0) 20)) (px_at td_Mo_numeral 6 rfl) lf_Mo_118 rfl rfl rfl ?_
    refine pw_iconst (v := 2) (px_at td_Mo_numeral 7 rfl) (by decide) ?_
    rcases px_ite h with ⟨hc8, h⟩ | ⟨hc8, h⟩
    · refine pw_icmp_eq 25 (px_at td_Mo_numeral 8 rfl) (by decide) (fun _ => ?_) (fun hn => absurd hc8 hn)
      refine pw_aload_n 0 (px_at td_Mo_numeral 13 rfl) rfl rfl ?_
      refine pw_getf (v := .inl (σ (0, 0, 0) 21)) (px_at td_Mo_numeral 14 rfl) lf_Mo_128 rfl rfl rfl ?_
      refine pw_iload_n 1 (px_at td_Mo_numeral 15 rfl) rfl rfl ?_
      rcases px_ite h with ⟨hc6, h⟩ | ⟨hc6, h⟩
      · refine pw_icmp_lt 41 (px_at td_Mo_numeral 16 rfl) (by decide) (fun _ => ?_) (fun hn => absurd hc6 hn)
        refine pw_L [(0, .inr (some (0, 0, 0))), (1, .inl v1)] [0, 1] rfl ?_
        exact Mo_numeral_n41_l h hR
      · refine pw_icmp_lt 41 (px_at td_Mo_numeral 16 rfl) (by decide) (fun hn => absurd hn hc6) (fun _ => ?_)
        refine pw_aload_n 0 (px_at td_Mo_numeral 17 rfl) rfl rfl ?_
        refine pw_getf (v := .inl (σ (0, 0, 0) 21)) (px_at td_Mo_numeral 18 rfl) lf_Mo_128 rfl rfl rfl ?_
        refine pw_iload_n 2 (px_at td_Mo_numeral 19 rfl) rfl rfl ?_
        rcases px_ite h with ⟨hc5, h⟩ | ⟨hc5, h⟩
        · refine pw_icmp_le 46 (px_at td_Mo_numeral 20 rfl) (by decide) (fun _ => ?_) (fun hn => absurd hc5 hn)
          refine pw_L [(0, .inr (some (0, 0, 0))), (1, .inl v1)] [0, 1] rfl ?_
          exact Mo_numeral_n46_l h hR
        · refine pw_icmp_le 46 (px_at td_Mo_numeral 20 rfl) (by decide) (fun hn => absurd hn hc5) (fun _ => ?_)
          refine pw_L [(0, .inr (some (0, 0, 0))), (1, .inl v1)] [0, 1] rfl ?_
          exact Mo_numeral_n41_l h hR
    · refine pw_icmp_eq 25 (px_at td_Mo_numeral 8 rfl) (by decide) (fun hn => absurd hn hc8) (fun _ => ?_)
      refine pw_aload_n 0 (px_at td_Mo_numeral 9 rfl) rfl rfl ?_
      refine pw_iconst (v := 1) (px_at td_Mo_numeral 10 rfl) (by decide) ?_
      obtain ⟨σ7, hk7, h⟩ := px_b1_e h
      refine pw_cV0 (0, 0, 0) [.inl 1] [] (px_at td_Mo_numeral 11 rfl) lV_Mo_158 rfl rfl rfl (Nat.le_of_ble_eq_true rfl) (by decide) (k_Mo_wrong hk7) ?_
      refine pw_goto 46 (px_at td_Mo_numeral 12 rfl) (by decide) ?_
      refine pw_L [(0, .inr (some (0, 0, 0))), (1, .inl v1)] [0, 1] rfl ?_
      exact Mo_numeral_n46_l h hR
  · refine pw_if_eq 9 (px_at td_Mo_numeral 2 rfl) (by decide) (fun hn => absurd hn hc9) (fun _ => ?_)
    refine pw_iload_n 1 (px_at td_Mo_numeral 3 rfl) rfl rfl ?_
    obtain rfl := Option.some.inj h
    exact pw_iret (px_at td_Mo_numeral 4 rfl) rfl (Nat.le_refl 0) (Nat.le_refl 0) hR
theorem k_Mo_numeral {l : Launch} {ids : List pxI} {σ : pxS} {v1 : Int32} {v2 : Int32} {res : Int32 × pxS} (h : F_Mo_numeral σ v1 v2 = some res) : pm l y_Mo_numeral c_Mo_numeral 4 (some .int) (px_R 9) [.inr (some (0, 0, 0)), .inl v1, .inl v2] ids mG σ (px_r (some (.inl res.1)) ids mG res.2) :=
  pm_ofF (by decide +kernel) (Nat.le_of_ble_eq_true rfl) (e_Mo_numeral h ⟨rfl, rfl, rfl, rfl⟩)
/-! Mo_reading -/
def F_Mo_reading (σ : pxS) (v1 : Int32) : Option (Int32) :=
  px_gd (11 + v1) 22 (some ((σ (1, 3, 0) (11 + v1).toNatClampNeg)))
set_option maxRecDepth 100000 in
theorem e_Mo_reading {l : Launch} {ids : List pxI} {Rt : Option pxV → List pxI → pxG → pxS → Prop} {σ : pxS} {v1 : Int32} {res : Int32} (h : F_Mo_reading σ v1 = some res) (hR : Rt (some (.inl res)) ids mG σ) : pw l (px_R 1) y_Mo_reading c_Mo_reading 2 (some .int) 0 [(0, .inr (some (0, 0, 0))), (1, .inl v1)] [] ids mG σ 0 0 Rt := by
  unfold F_Mo_reading at h
  refine pw_aload_n 0 (px_at td_Mo_reading 0 rfl) rfl rfl ?_
  refine pw_getf (v := .inr (some (1, 3, 0))) (px_at td_Mo_reading 1 rfl) lf_Mo_13 rfl rfl rfl ?_
  refine pw_bipush (v := 11) (px_at td_Mo_reading 2 rfl) (by decide) ?_
  refine pw_iload_n 1 (px_at td_Mo_reading 3 rfl) rfl rfl ?_
  refine pw_iadd (px_at td_Mo_reading 4 rfl) ?_
  obtain ⟨hi1, h⟩ := px_gd_e h
  refine pw_ial (px_at td_Mo_reading 5 rfl) rfl hi1 rfl ?_
  obtain rfl := Option.some.inj h
  exact pw_iret (px_at td_Mo_reading 6 rfl) rfl (Nat.le_refl 0) (Nat.le_refl 0) hR
theorem k_Mo_reading {l : Launch} {ids : List pxI} {σ : pxS} {v1 : Int32} {res : Int32} (h : F_Mo_reading σ v1 = some res) : pm l y_Mo_reading c_Mo_reading 2 (some .int) (px_R 1) [.inr (some (0, 0, 0)), .inl v1] ids mG σ (px_r (some (.inl res)) ids mG σ) :=
  pm_ofF (by decide +kernel) (Nat.le_of_ble_eq_true rfl) (e_Mo_reading h ⟨rfl, rfl, rfl, rfl⟩)
/-! Mo_reads -/
def F_Mo_reads (σ : pxS) (v1 : Int32) (v2 : Int32) : Option (pxS) :=
  px_gd (11 + v1) 22 (px_l (px_up σ (1, 3, 0) (11 + v1).toNatClampNeg v2) fun σ2 =>
  some σ2)
set_option maxRecDepth 100000 in
theorem e_Mo_reads {l : Launch} {ids : List pxI} {Rt : Option pxV → List pxI → pxG → pxS → Prop} {σ : pxS} {v1 : Int32} {v2 : Int32} {res : pxS} (h : F_Mo_reads σ v1 v2 = some res) (hR : Rt none ids mG res) : pw l (px_R 1) y_Mo_reads c_Mo_reads 3 none 0 [(0, .inr (some (0, 0, 0))), (1, .inl v1), (2, .inl v2)] [] ids mG σ 0 0 Rt := by
  unfold F_Mo_reads at h
  refine pw_aload_n 0 (px_at td_Mo_reads 0 rfl) rfl rfl ?_
  refine pw_getf (v := .inr (some (1, 3, 0))) (px_at td_Mo_reads 1 rfl) lf_Mo_13 rfl rfl rfl ?_
  refine pw_bipush (v := 11) (px_at td_Mo_reads 2 rfl) (by decide) ?_
  refine pw_iload_n 1 (px_at td_Mo_reads 3 rfl) rfl rfl ?_
  refine pw_iadd (px_at td_Mo_reads 4 rfl) ?_
  refine pw_iload_n 2 (px_at td_Mo_reads 5 rfl) rfl rfl ?_
  obtain ⟨hi1, h⟩ := px_gd_e h
  obtain ⟨σ2, hσ2, h⟩ := px_l_e h
  refine pw_ias (px_at td_Mo_reads 6 rfl) rfl hi1 rfl hσ2 ?_
  obtain rfl := Option.some.inj h
  exact pw_vret (px_at td_Mo_reads 7 rfl) rfl (Nat.le_refl 0) (Nat.le_refl 0) hR
theorem k_Mo_reads {l : Launch} {ids : List pxI} {σ : pxS} {v1 : Int32} {v2 : Int32} {res : pxS} (h : F_Mo_reads σ v1 v2 = some res) : pm l y_Mo_reads c_Mo_reads 3 none (px_R 1) [.inr (some (0, 0, 0)), .inl v1, .inl v2] ids mG σ (px_r none ids mG res) :=
  pm_ofF (by decide +kernel) (Nat.le_of_ble_eq_true rfl) (e_Mo_reads h ⟨rfl, rfl, rfl, rfl⟩)
/-! Mo_readOnce -/
def Mo_readOnce_n14 (σ : pxS) (v1 : Int32) (v2 : Int32) (v3 : Int32) (v4 : Int32) : Option (pxS) :=
  px_gd v1 14 (px_l (px_up σ (1, 4, 0) v1.toNatClampNeg (vp_nar .boolean 1)) fun σ3 =>
  px_b1 (F_Mo_goOn σ3 ) fun σ4 =>
  px_b2 (F_Mo_numeral σ4 v3 v4) fun r5 σ5 =>
  px_b1 (F_Mo_reads σ5 v2 r5) fun σ6 =>
  some σ6)
set_option maxRecDepth 100000 in
theorem Mo_readOnce_n14_l {l : Launch} {ids : List pxI} {Rt : Option pxV → List pxI → pxG → pxS → Prop} {σ : pxS} {v1 : Int32} {v2 : Int32} {v3 : Int32} {v4 : Int32} {res : pxS} (h : Mo_readOnce_n14 σ v1 v2 v3 v4 = some res) (hR : Rt none ids mG res) : pw l (px_R 10) y_Mo_readOnce c_Mo_readOnce 5 none 14 [(0, .inr (some (0, 0, 0))), (1, .inl v1), (2, .inl v2), (3, .inl v3), (4, .inl v4)] [] ids mG σ 0 0 Rt := by
  unfold Mo_readOnce_n14 at h
  refine pw_aload_n 0 (px_at td_Mo_readOnce 8 rfl) rfl rfl ?_
  refine pw_getf (v := .inr (some (1, 4, 0))) (px_at td_Mo_readOnce 9 rfl) lf_Mo_16 rfl rfl rfl ?_
  refine pw_iload_n 1 (px_at td_Mo_readOnce 10 rfl) rfl rfl ?_
  refine pw_iconst (v := 1) (px_at td_Mo_readOnce 11 rfl) (by decide) ?_
  obtain ⟨hi2, h⟩ := px_gd_e h
  obtain ⟨σ3, hσ3, h⟩ := px_l_e h
  refine pw_zas (px_at td_Mo_readOnce 12 rfl) rfl hi2 rfl hσ3 ?_
  refine pw_aload_n 0 (px_at td_Mo_readOnce 13 rfl) rfl rfl ?_
  obtain ⟨σ4, hk4, h⟩ := px_b1_e h
  refine pw_cV0 (0, 0, 0) [] [] (px_at td_Mo_readOnce 14 rfl) lV_Mo_162 rfl rfl rfl (Nat.le_of_ble_eq_true rfl) (by decide) (k_Mo_goOn hk4) ?_
  refine pw_aload_n 0 (px_at td_Mo_readOnce 15 rfl) rfl rfl ?_
  refine pw_iload_n 2 (px_at td_Mo_readOnce 16 rfl) rfl rfl ?_
  refine pw_aload_n 0 (px_at td_Mo_readOnce 17 rfl) rfl rfl ?_
  refine pw_iload_n 3 (px_at td_Mo_readOnce 18 rfl) rfl rfl ?_
  refine pw_iload 4 (px_at td_Mo_readOnce 19 rfl) rfl ?_
  obtain ⟨r5, σ5, hk5, h⟩ := px_b2_e h
  refine pw_cV1 (0, 0, 0) [.inl v3, .inl v4] [.inl v2, .inr (some (0, 0, 0))] (px_at td_Mo_readOnce 20 rfl) lV_Mo_165 rfl rfl rfl (Nat.le_of_ble_eq_true rfl) (by decide) (k_Mo_numeral hk5) ?_
  obtain ⟨σ6, hk6, h⟩ := px_b1_e h
  refine pw_cV0 (0, 0, 0) [.inl v2, .inl r5] [] (px_at td_Mo_readOnce 21 rfl) lV_Mo_169 rfl rfl rfl (Nat.le_of_ble_eq_true rfl) (by decide) (k_Mo_reads hk6) ?_
  obtain rfl := Option.some.inj h
  exact pw_vret (px_at td_Mo_readOnce 22 rfl) rfl (Nat.le_refl 0) (Nat.le_refl 0) hR
def F_Mo_readOnce (σ : pxS) (v1 : Int32) (v2 : Int32) (v3 : Int32) (v4 : Int32) : Option (pxS) :=
  px_gd v1 14 ((if (σ (1, 4, 0) v1.toNatClampNeg) = 0 then Mo_readOnce_n14 σ v1 v2 v3 v4 else px_b1 (F_Mo_wrong σ 3) fun σ7 =>
  Mo_readOnce_n14 σ7 v1 v2 v3 v4))
set_option maxRecDepth 100000 in
theorem e_Mo_readOnce {l : Launch} {ids : List pxI} {Rt : Option pxV → List pxI → pxG → pxS → Prop} {σ : pxS} {v1 : Int32} {v2 : Int32} {v3 : Int32} {v4 : Int32} {res : pxS} (h : F_Mo_readOnce σ v1 v2 v3 v4 = some res) (hR : Rt none ids mG res) : pw l (px_R 10) y_Mo_readOnce c_Mo_readOnce 5 none 0 [(0, .inr (some (0, 0, 0))), (1, .inl v1), (2, .inl v2), (3, .inl v3), (4, .inl v4)] [] ids mG σ 0 0 Rt := by
  unfold F_Mo_readOnce at h
  refine pw_aload_n 0 (px_at td_Mo_readOnce 0 rfl) rfl rfl ?_
  refine pw_getf (v := .inr (some (1, 4, 0))) (px_at td_Mo_readOnce 1 rfl) lf_Mo_16 rfl rfl rfl ?_
  refine pw_iload_n 1 (px_at td_Mo_readOnce 2 rfl) rfl rfl ?_
  obtain ⟨hi1, h⟩ := px_gd_e h
  refine pw_zal (px_at td_Mo_readOnce 3 rfl) rfl hi1 rfl ?_
  rcases px_ite h with ⟨hc8, h⟩ | ⟨hc8, h⟩
  · refine pw_if_eq 14 (px_at td_Mo_readOnce 4 rfl) (by decide) (fun _ => ?_) (fun hn => absurd hc8 hn)
    exact Mo_readOnce_n14_l h hR
  · refine pw_if_eq 14 (px_at td_Mo_readOnce 4 rfl) (by decide) (fun hn => absurd hn hc8) (fun _ => ?_)
    refine pw_aload_n 0 (px_at td_Mo_readOnce 5 rfl) rfl rfl ?_
    refine pw_iconst (v := 3) (px_at td_Mo_readOnce 6 rfl) (by decide) ?_
    obtain ⟨σ7, hk7, h⟩ := px_b1_e h
    refine pw_cV0 (0, 0, 0) [.inl 3] [] (px_at td_Mo_readOnce 7 rfl) lV_Mo_158 rfl rfl rfl (Nat.le_of_ble_eq_true rfl) (by decide) (k_Mo_wrong hk7) ?_
    exact Mo_readOnce_n14_l h hR
theorem k_Mo_readOnce {l : Launch} {ids : List pxI} {σ : pxS} {v1 : Int32} {v2 : Int32} {v3 : Int32} {v4 : Int32} {res : pxS} (h : F_Mo_readOnce σ v1 v2 v3 v4 = some res) : pm l y_Mo_readOnce c_Mo_readOnce 5 none (px_R 10) [.inr (some (0, 0, 0)), .inl v1, .inl v2, .inl v3, .inl v4] ids mG σ (px_r none ids mG res) :=
  pm_ofF (by decide +kernel) (Nat.le_of_ble_eq_true rfl) (e_Mo_readOnce h ⟨rfl, rfl, rfl, rfl⟩)
/-! Mo_namedAt -/
def Mo_namedAt_n3 (σ : pxS) (v1 : Int32) (v2 : Int32) (v3 : Int32) (v4 : Int32) : Option ((Int32) ⊕ (Nat × Int32)) :=
  (if v2 ≤ v4 then some (.inr (1, 0)) else px_gd (v1 + v4) 24 ((if (σ (1, 5, 0) (v1 + v4).toNatClampNeg) = v3 then some (.inr (0, v4)) else some (.inl (v4 + 1)))))
set_option maxRecDepth 100000 in
theorem Mo_namedAt_n3_l {l : Launch} {ids : List pxI} {Rt : Option pxV → List pxI → pxG → pxS → Prop} {σ : pxS} {v1 : Int32} {v2 : Int32} {v3 : Int32} {v4 : Int32} {o : (Int32) ⊕ (Nat × Int32)} (h : Mo_namedAt_n3 σ v1 v2 v3 v4 = some o) (hC : ∀ s, o = .inl s → pw l (px_R 1) y_Mo_namedAt c_Mo_namedAt 5 (some .int) 3 [(0, .inr (some (0, 0, 0))), (1, .inl v1), (2, .inl v2), (3, .inl v3), (4, .inl s)] [] ids mG σ 0 0 Rt) (hX0 : ∀ e, o = .inr e → e.1 = 0 → pw l (px_R 1) y_Mo_namedAt c_Mo_namedAt 5 (some .int) 22 [(4, .inl e.2)] [] ids mG σ 0 0 Rt) (hX1 : ∀ e, o = .inr e → e.1 = 1 → pw l (px_R 1) y_Mo_namedAt c_Mo_namedAt 5 (some .int) 31 [] [] ids mG σ 0 0 Rt) : pw l (px_R 1) y_Mo_namedAt c_Mo_namedAt 5 (some .int) 3 [(0, .inr (some (0, 0, 0))), (1, .inl v1), (2, .inl v2), (3, .inl v3), (4, .inl v4)] [] ids mG σ 0 0 Rt := by
  unfold Mo_namedAt_n3 at h
  refine pw_iload 4 (px_at td_Mo_namedAt 2 rfl) rfl ?_
  refine pw_iload_n 2 (px_at td_Mo_namedAt 3 rfl) rfl rfl ?_
  rcases px_ite h with ⟨hc3, h⟩ | ⟨hc3, h⟩
  · refine pw_icmp_ge 31 (px_at td_Mo_namedAt 4 rfl) (by decide) (fun _ => ?_) (fun hn => absurd hc3 hn)
    refine pw_L [] [] rfl ?_
    exact hX1 (1, 0) (Option.some.inj h).symm rfl
  · refine pw_icmp_ge 31 (px_at td_Mo_namedAt 4 rfl) (by decide) (fun hn => absurd hn hc3) (fun _ => ?_)
    refine pw_aload_n 0 (px_at td_Mo_namedAt 5 rfl) rfl rfl ?_
    refine pw_getf (v := .inr (some (1, 5, 0))) (px_at td_Mo_namedAt 6 rfl) lf_Mo_20 rfl rfl rfl ?_
    refine pw_iload_n 1 (px_at td_Mo_namedAt 7 rfl) rfl rfl ?_
    refine pw_iload 4 (px_at td_Mo_namedAt 8 rfl) rfl ?_
    refine pw_iadd (px_at td_Mo_namedAt 9 rfl) ?_
    obtain ⟨hi1, h⟩ := px_gd_e h
    refine pw_ial (px_at td_Mo_namedAt 10 rfl) rfl hi1 rfl ?_
    refine pw_iload_n 3 (px_at td_Mo_namedAt 11 rfl) rfl rfl ?_
    rcases px_ite h with ⟨hc2, h⟩ | ⟨hc2, h⟩
    · refine pw_icmp_ne 25 (px_at td_Mo_namedAt 12 rfl) (by decide) (fun hn => absurd hc2 hn) (fun _ => ?_)
      refine pw_L [(4, .inl v4)] [4] rfl ?_
      exact hX0 (0, v4) (Option.some.inj h).symm rfl
    · refine pw_icmp_ne 25 (px_at td_Mo_namedAt 12 rfl) (by decide) (fun _ => ?_) (fun hn => absurd hn hc2)
      refine pw_iinc (q := 4) (v := (v4 + 1)) (L' := [(4, .inl (v4 + 1)), (0, .inr (some (0, 0, 0))), (1, .inl v1), (2, .inl v2), (3, .inl v3)]) (px_at td_Mo_namedAt 15 rfl) rfl rfl (by decide) rfl ?_
      refine pw_goto 3 (px_at td_Mo_namedAt 16 rfl) (by decide) ?_
      refine pw_L [(0, .inr (some (0, 0, 0))), (1, .inl v1), (2, .inl v2), (3, .inl v3), (4, .inl (v4 + 1))] [1, 2, 3, 4, 0] rfl ?_
      exact hC (v4 + 1) (Option.some.inj h).symm
def Mo_namedAt_L3 (σ : pxS) (v1 : Int32) (v2 : Int32) (v3 : Int32) : (Int32) → Option ((Int32) ⊕ (Nat × Int32)) := fun s => Mo_namedAt_n3 σ v1 v2 v3 s
set_option maxRecDepth 100000 in
theorem Mo_namedAt_L3_l {l : Launch} {ids : List pxI} {Rt : Option pxV → List pxI → pxG → pxS → Prop} {σ : pxS} {v1 : Int32} {v2 : Int32} {v3 : Int32} {n : Nat} {s : Int32} {e : Nat × Int32} (h : px_it (Mo_namedAt_L3 σ v1 v2 v3) n s = some e) (hX0 : e.1 = 0 → pw l (px_R 1) y_Mo_namedAt c_Mo_namedAt 5 (some .int) 22 [(4, .inl e.2)] [] ids mG σ 0 0 Rt) (hX1 : e.1 = 1 → pw l (px_R 1) y_Mo_namedAt c_Mo_namedAt 5 (some .int) 31 [] [] ids mG σ 0 0 Rt) : pw l (px_R 1) y_Mo_namedAt c_Mo_namedAt 5 (some .int) 3 [(0, .inr (some (0, 0, 0))), (1, .inl v1), (2, .inl v2), (3, .inl v3), (4, .inl s)] [] ids mG σ 0 0 Rt := by
  refine px_it_rule (f := Mo_namedAt_L3 σ v1 v2 v3) (C := fun s => pw l (px_R 1) y_Mo_namedAt c_Mo_namedAt 5 (some .int) 3 [(0, .inr (some (0, 0, 0))), (1, .inl v1), (2, .inl v2), (3, .inl v3), (4, .inl s)] [] ids mG σ 0 0 Rt) (X := fun e => (e.1 = 0 → pw l (px_R 1) y_Mo_namedAt c_Mo_namedAt 5 (some .int) 22 [(4, .inl e.2)] [] ids mG σ 0 0 Rt) ∧ (e.1 = 1 → pw l (px_R 1) y_Mo_namedAt c_Mo_namedAt 5 (some .int) 31 [] [] ids mG σ 0 0 Rt)) ?_ ?_ n s e h ⟨hX0, hX1⟩
  · intro s s1 hf hC
    exact Mo_namedAt_n3_l hf (fun s2 hs => by cases hs; exact hC) (fun e he ht => by cases he) (fun e he ht => by cases he)
  · intro s e hf hX
    exact Mo_namedAt_n3_l hf (fun s2 hs => by cases hs) (fun e1 he ht => by cases he; exact hX.1 ht) (fun e1 he ht => by cases he; exact hX.2 ht)
def F_Mo_namedAt (σ : pxS) (v1 : Int32) (v2 : Int32) (v3 : Int32) : Option (Int32) :=
  px_b1 (px_it (Mo_namedAt_L3 σ v1 v2 v3) px_N 0) fun e4 =>
  (if e4.1 = 0 then some (e4.2) else some ((-1)))
set_option maxRecDepth 100000 in
theorem e_Mo_namedAt {l : Launch} {ids : List pxI} {Rt : Option pxV → List pxI → pxG → pxS → Prop} {σ : pxS} {v1 : Int32} {v2 : Int32} {v3 : Int32} {res : Int32} (h : F_Mo_namedAt σ v1 v2 v3 = some res) (hR : Rt (some (.inl res)) ids mG σ) : pw l (px_R 1) y_Mo_namedAt c_Mo_namedAt 5 (some .int) 0 [(0, .inr (some (0, 0, 0))), (1, .inl v1), (2, .inl v2), (3, .inl v3)] [] ids mG σ 0 0 Rt := by
  unfold F_Mo_namedAt at h
  refine pw_iconst (v := 0) (px_at td_Mo_namedAt 0 rfl) (by decide) ?_
  refine pw_istore (L' := [(4, .inl 0), (0, .inr (some (0, 0, 0))), (1, .inl v1), (2, .inl v2), (3, .inl v3)]) (px_at td_Mo_namedAt 1 rfl) (by decide) rfl ?_
  obtain ⟨e4, he4, h⟩ := px_b1_e h
  refine pw_L [(0, .inr (some (0, 0, 0))), (1, .inl v1), (2, .inl v2), (3, .inl v3), (4, .inl 0)] [1, 2, 3, 4, 0] rfl ?_
  refine Mo_namedAt_L3_l he4 (fun ht0 => ?_) (fun ht1 => ?_)
  · rw [if_pos ht0] at h
    refine pw_iload 0 (px_at td_Mo_namedAt 13 rfl) rfl ?_
    obtain rfl := Option.some.inj h
    exact pw_iret (px_at td_Mo_namedAt 14 rfl) rfl (Nat.le_refl 0) (Nat.le_refl 0) hR
  · rw [if_neg (by rw [ht1]; decide)] at h
    refine pw_iconst (v := (-1)) (px_at td_Mo_namedAt 17 rfl) (by decide) ?_
    obtain rfl := Option.some.inj h
    exact pw_iret (px_at td_Mo_namedAt 18 rfl) rfl (Nat.le_refl 0) (Nat.le_refl 0) hR
theorem k_Mo_namedAt {l : Launch} {ids : List pxI} {σ : pxS} {v1 : Int32} {v2 : Int32} {v3 : Int32} {res : Int32} (h : F_Mo_namedAt σ v1 v2 v3 = some res) : pm l y_Mo_namedAt c_Mo_namedAt 5 (some .int) (px_R 1) [.inr (some (0, 0, 0)), .inl v1, .inl v2, .inl v3] ids mG σ (px_r (some (.inl res)) ids mG σ) :=
  pm_ofF (by decide +kernel) (Nat.le_of_ble_eq_true rfl) (e_Mo_namedAt h ⟨rfl, rfl, rfl, rfl⟩)
/-! Mo_railHere -/
def Mo_railHere_n59 (σ : pxS) (v1 : Int32) : Option (Int32 × pxS) :=
  (if v1 = (-1) then some (0, σ) else some (v1, σ))
set_option maxRecDepth 100000 in
theorem Mo_railHere_n59_l {l : Launch} {ids : List pxI} {Rt : Option pxV → List pxI → pxG → pxS → Prop} {σ : pxS} {v1 : Int32} {res : Int32 × pxS} (h : Mo_railHere_n59 σ v1 = some res) (hR : Rt (some (.inl res.1)) ids mG res.2) : pw l (px_R 2) y_Mo_railHere c_Mo_railHere 2 (some .int) 59 [(1, .inl v1)] [] ids mG σ 0 0 Rt := by
  unfold Mo_railHere_n59 at h
  refine pw_iload_n 0 (px_at td_Mo_railHere 32 rfl) rfl rfl ?_
  refine pw_iconst (v := (-1)) (px_at td_Mo_railHere 33 rfl) (by decide) ?_
  rcases px_ite h with ⟨hc1, h⟩ | ⟨hc1, h⟩
  · refine pw_icmp_ne 68 (px_at td_Mo_railHere 34 rfl) (by decide) (fun hn => absurd hc1 hn) (fun _ => ?_)
    refine pw_iconst (v := 0) (px_at td_Mo_railHere 35 rfl) (by decide) ?_
    refine pw_goto 69 (px_at td_Mo_railHere 36 rfl) (by decide) ?_
    obtain rfl := Option.some.inj h
    exact pw_iret (px_at td_Mo_railHere 38 rfl) rfl (Nat.le_refl 0) (Nat.le_refl 0) hR
  · refine pw_icmp_ne 68 (px_at td_Mo_railHere 34 rfl) (by decide) (fun _ => ?_) (fun hn => absurd hn hc1)
    refine pw_iload_n 0 (px_at td_Mo_railHere 37 rfl) rfl rfl ?_
    obtain rfl := Option.some.inj h
    exact pw_iret (px_at td_Mo_railHere 38 rfl) rfl (Nat.le_refl 0) (Nat.le_refl 0) hR
def Mo_railHere_n22 (σ : pxS)  : Option (Int32 × pxS) :=
  (if (σ (0, 0, 0) 22) = 0 then px_b1 (F_Mo_reading σ 0) fun r2 =>
  px_b1 (F_Mo_namedAt σ 12 r2 (σ (0, 0, 0) 21)) fun r3 =>
  (if r3 = (-1) then px_b1 (F_Mo_wrong σ 4) fun σ4 =>
  Mo_railHere_n59 σ4 r3 else Mo_railHere_n59 σ r3) else Mo_railHere_n59 σ 0)
set_option maxRecDepth 100000 in
theorem Mo_railHere_n22_l {l : Launch} {ids : List pxI} {Rt : Option pxV → List pxI → pxG → pxS → Prop} {σ : pxS}  {res : Int32 × pxS} (h : Mo_railHere_n22 σ  = some res) (hR : Rt (some (.inl res.1)) ids mG res.2) : pw l (px_R 2) y_Mo_railHere c_Mo_railHere 2 (some .int) 22 [(0, .inr (some (0, 0, 0)))] [] ids mG σ 0 0 Rt := by
  unfold Mo_railHere_n22 at h
  refine pw_aload_n 0 (px_at td_Mo_railHere 12 rfl) rfl rfl ?_
  refine pw_getf (v := .inl (σ (0, 0, 0) 22)) (px_at td_Mo_railHere 13 rfl) lf_Mo_149 rfl rfl rfl ?_
  rcases px_ite h with ⟨hc6, h⟩ | ⟨hc6, h⟩
  · refine pw_if_ne 47 (px_at td_Mo_railHere 14 rfl) (by decide) (fun hn => absurd hc6 hn) (fun _ => ?_)
    refine pw_aload_n 0 (px_at td_Mo_railHere 15 rfl) rfl rfl ?_
    refine pw_bipush (v := 12) (px_at td_Mo_railHere 16 rfl) (by decide) ?_
    refine pw_aload_n 0 (px_at td_Mo_railHere 17 rfl) rfl rfl ?_
    refine pw_iconst (v := 0) (px_at td_Mo_railHere 18 rfl) (by decide) ?_
    obtain ⟨r2, hk2, h⟩ := px_b1_e h
    refine pw_cV1 (0, 0, 0) [.inl 0] [.inl 12, .inr (some (0, 0, 0))] (px_at td_Mo_railHere 19 rfl) lV_Mo_173 rfl rfl rfl (Nat.le_of_ble_eq_true rfl) (by decide) (k_Mo_reading hk2) ?_
    refine pw_aload_n 0 (px_at td_Mo_railHere 20 rfl) rfl rfl ?_
    refine pw_getf (v := .inl (σ (0, 0, 0) 21)) (px_at td_Mo_railHere 21 rfl) lf_Mo_128 rfl rfl rfl ?_
    obtain ⟨r3, hk3, h⟩ := px_b1_e h
    refine pw_cV1 (0, 0, 0) [.inl 12, .inl r2, .inl (σ (0, 0, 0) 21)] [] (px_at td_Mo_railHere 22 rfl) lV_Mo_177 rfl rfl rfl (Nat.le_of_ble_eq_true rfl) (by decide) (k_Mo_namedAt hk3) ?_
    refine pw_goto 48 (px_at td_Mo_railHere 23 rfl) (by decide) ?_
    refine pw_istore_n (L' := [(1, .inl r3), (0, .inr (some (0, 0, 0)))]) (px_at td_Mo_railHere 25 rfl) rfl (by decide) rfl ?_
    refine pw_iload_n 0 (px_at td_Mo_railHere 26 rfl) rfl rfl ?_
    refine pw_iconst (v := (-1)) (px_at td_Mo_railHere 27 rfl) (by decide) ?_
    rcases px_ite h with ⟨hc5, h⟩ | ⟨hc5, h⟩
    · refine pw_icmp_ne 59 (px_at td_Mo_railHere 28 rfl) (by decide) (fun hn => absurd hc5 hn) (fun _ => ?_)
      refine pw_aload_n 1 (px_at td_Mo_railHere 29 rfl) rfl rfl ?_
      refine pw_iconst (v := 4) (px_at td_Mo_railHere 30 rfl) (by decide) ?_
      obtain ⟨σ4, hk4, h⟩ := px_b1_e h
      refine pw_cV0 (0, 0, 0) [.inl 4] [] (px_at td_Mo_railHere 31 rfl) lV_Mo_158 rfl rfl rfl (Nat.le_of_ble_eq_true rfl) (by decide) (k_Mo_wrong hk4) ?_
      refine pw_L [(1, .inl r3)] [0] rfl ?_
      exact Mo_railHere_n59_l h hR
    · refine pw_icmp_ne 59 (px_at td_Mo_railHere 28 rfl) (by decide) (fun _ => ?_) (fun hn => absurd hn hc5)
      refine pw_L [(1, .inl r3)] [0] rfl ?_
      exact Mo_railHere_n59_l h hR
  · refine pw_if_ne 47 (px_at td_Mo_railHere 14 rfl) (by decide) (fun _ => ?_) (fun hn => absurd hn hc6)
    refine pw_iconst (v := 0) (px_at td_Mo_railHere 24 rfl) (by decide) ?_
    refine pw_istore_n (L' := [(1, .inl 0), (0, .inr (some (0, 0, 0)))]) (px_at td_Mo_railHere 25 rfl) rfl (by decide) rfl ?_
    refine pw_iload_n 0 (px_at td_Mo_railHere 26 rfl) rfl rfl ?_
    refine pw_iconst (v := (-1)) (px_at td_Mo_railHere 27 rfl) (by decide) ?_
    refine pw_icmp_ne 59 (px_at td_Mo_railHere 28 rfl) (by decide) (fun hn => ?_) (fun hn => absurd hn (by decide))
    refine pw_L [(1, .inl 0)] [0] rfl ?_
    exact Mo_railHere_n59_l h hR
def F_Mo_railHere (σ : pxS)  : Option (Int32 × pxS) :=
  (if (σ (0, 0, 0) 22) = 0 then (if (σ (0, 0, 0) 20) = 1 then Mo_railHere_n22 σ  else px_b1 (F_Mo_wrong σ 1) fun σ7 =>
  Mo_railHere_n22 σ7 ) else some (0, σ))
set_option maxRecDepth 100000 in
theorem e_Mo_railHere {l : Launch} {ids : List pxI} {Rt : Option pxV → List pxI → pxG → pxS → Prop} {σ : pxS}  {res : Int32 × pxS} (h : F_Mo_railHere σ  = some res) (hR : Rt (some (.inl res.1)) ids mG res.2) : pw l (px_R 2) y_Mo_railHere c_Mo_railHere 2 (some .int) 0 [(0, .inr (some (0, 0, 0)))] [] ids mG σ 0 0 Rt := by
  unfold F_Mo_railHere at h
  refine pw_aload_n 0 (px_at td_Mo_railHere 0 rfl) rfl rfl ?_
  refine pw_getf (v := .inl (σ (0, 0, 0) 22)) (px_at td_Mo_railHere 1 rfl) lf_Mo_149 rfl rfl rfl ?_
  rcases px_ite h with ⟨hc9, h⟩ | ⟨hc9, h⟩
  · refine pw_if_eq 9 (px_at td_Mo_railHere 2 rfl) (by decide) (fun _ => ?_) (fun hn => absurd hc9 hn)
    refine pw_aload_n 0 (px_at td_Mo_railHere 5 rfl) rfl rfl ?_
    refine pw_getf (v := .inl (σ (0, 0, 0) 20)) (px_at td_Mo_railHere 6 rfl) lf_Mo_118 rfl rfl rfl ?_
    refine pw_iconst (v := 1) (px_at td_Mo_railHere 7 rfl) (by decide) ?_
    rcases px_ite h with ⟨hc8, h⟩ | ⟨hc8, h⟩
    · refine pw_icmp_eq 22 (px_at td_Mo_railHere 8 rfl) (by decide) (fun _ => ?_) (fun hn => absurd hc8 hn)
      exact Mo_railHere_n22_l h hR
    · refine pw_icmp_eq 22 (px_at td_Mo_railHere 8 rfl) (by decide) (fun hn => absurd hn hc8) (fun _ => ?_)
      refine pw_aload_n 0 (px_at td_Mo_railHere 9 rfl) rfl rfl ?_
      refine pw_iconst (v := 1) (px_at td_Mo_railHere 10 rfl) (by decide) ?_
      obtain ⟨σ7, hk7, h⟩ := px_b1_e h
      refine pw_cV0 (0, 0, 0) [.inl 1] [] (px_at td_Mo_railHere 11 rfl) lV_Mo_158 rfl rfl rfl (Nat.le_of_ble_eq_true rfl) (by decide) (k_Mo_wrong hk7) ?_
      exact Mo_railHere_n22_l h hR
  · refine pw_if_eq 9 (px_at td_Mo_railHere 2 rfl) (by decide) (fun hn => absurd hn hc9) (fun _ => ?_)
    refine pw_iconst (v := 0) (px_at td_Mo_railHere 3 rfl) (by decide) ?_
    obtain rfl := Option.some.inj h
    exact pw_iret (px_at td_Mo_railHere 4 rfl) rfl (Nat.le_refl 0) (Nat.le_refl 0) hR
theorem k_Mo_railHere {l : Launch} {ids : List pxI} {σ : pxS}  {res : Int32 × pxS} (h : F_Mo_railHere σ  = some res) : pm l y_Mo_railHere c_Mo_railHere 2 (some .int) (px_R 2) [.inr (some (0, 0, 0))] ids mG σ (px_r (some (.inl res.1)) ids mG res.2) :=
  pm_ofF (by decide +kernel) (Nat.le_of_ble_eq_true rfl) (e_Mo_railHere h ⟨rfl, rfl, rfl, rfl⟩)
/-! Mo_readRail -/
def Mo_readRail_n114 (σ : pxS) (v1 : Int32) : Option (pxS) :=
  px_b2 (F_Mo_railHere σ ) fun r8 σ8 =>
  px_gd v1 24 (px_l (px_up σ8 (1, 6, 0) v1.toNatClampNeg r8) fun σ10 =>
  px_b1 (F_Mo_goOn σ10 ) fun σ11 =>
  px_b2 (F_Mo_numeral σ11 1 9999) fun r12 σ12 =>
  px_gd v1 24 (px_l (px_up σ12 (1, 7, 0) v1.toNatClampNeg r12) fun σ14 =>
  px_b2 (F_Mo_numeral σ14 1 9999) fun r15 σ15 =>
  px_gd v1 24 (px_l (px_up σ15 (1, 8, 0) v1.toNatClampNeg r15) fun σ17 =>
  px_b2 (F_Mo_numeral σ17 0 99) fun r18 σ18 =>
  px_gd v1 24 (px_l (px_up σ18 (1, 9, 0) v1.toNatClampNeg r18) fun σ20 =>
  px_b2 (F_Mo_numeral σ20 0 999) fun r21 σ21 =>
  px_gd v1 24 (px_l (px_up σ21 (1, 10, 0) v1.toNatClampNeg r21) fun σ23 =>
  px_b2 (F_Mo_numeral σ23 1 99999) fun r24 σ24 =>
  px_gd v1 24 (px_l (px_up σ24 (1, 11, 0) v1.toNatClampNeg r24) fun σ26 =>
  px_gd v1 24 (px_l (px_up σ26 (1, 12, 0) v1.toNatClampNeg 0) fun σ28 =>
  px_b1 (F_Mo_reading σ28 0) fun r29 =>
  px_b1 (F_Mo_reads σ28 0 (r29 + 1)) fun σ30 =>
  some σ30)))))))
set_option maxRecDepth 100000 in
theorem Mo_readRail_n114_l {l : Launch} {ids : List pxI} {Rt : Option pxV → List pxI → pxG → pxS → Prop} {σ : pxS} {v1 : Int32} {res : pxS} (h : Mo_readRail_n114 σ v1 = some res) (hR : Rt none ids mG res) : pw l (px_R 10) y_Mo_readRail c_Mo_readRail 3 none 114 [(0, .inr (some (0, 0, 0))), (1, .inl v1)] [] ids mG σ 0 0 Rt := by
  unfold Mo_readRail_n114 at h
  refine pw_iconst (v := 0) (px_at td_Mo_readRail 60 rfl) (by decide) ?_
  refine pw_istore_n (L' := [(2, .inl 0), (0, .inr (some (0, 0, 0))), (1, .inl v1)]) (px_at td_Mo_readRail 61 rfl) rfl (by decide) rfl ?_
  refine pw_aload_n 1 (px_at td_Mo_readRail 62 rfl) rfl rfl ?_
  refine pw_getf (v := .inr (some (1, 6, 0))) (px_at td_Mo_readRail 63 rfl) lf_Mo_23 rfl rfl rfl ?_
  refine pw_iload_n 2 (px_at td_Mo_readRail 64 rfl) rfl rfl ?_
  refine pw_iload_n 0 (px_at td_Mo_readRail 65 rfl) rfl rfl ?_
  refine pw_if_eq 130 (px_at td_Mo_readRail 66 rfl) (by decide) (fun hn => ?_) (fun hn => absurd hn (by decide))
  refine pw_aload_n 1 (px_at td_Mo_readRail 69 rfl) rfl rfl ?_
  obtain ⟨r8, σ8, hk8, h⟩ := px_b2_e h
  refine pw_cV1 (0, 0, 0) [] [.inl v1, .inr (some (1, 6, 0))] (px_at td_Mo_readRail 70 rfl) lV_Mo_181 rfl rfl rfl (Nat.le_of_ble_eq_true rfl) (by decide) (k_Mo_railHere hk8) ?_
  obtain ⟨hi9, h⟩ := px_gd_e h
  obtain ⟨σ10, hσ10, h⟩ := px_l_e h
  refine pw_ias (px_at td_Mo_readRail 71 rfl) rfl hi9 rfl hσ10 ?_
  refine pw_aload_n 1 (px_at td_Mo_readRail 72 rfl) rfl rfl ?_
  obtain ⟨σ11, hk11, h⟩ := px_b1_e h
  refine pw_cV0 (0, 0, 0) [] [] (px_at td_Mo_readRail 73 rfl) lV_Mo_162 rfl rfl rfl (Nat.le_of_ble_eq_true rfl) (by decide) (k_Mo_goOn hk11) ?_
  refine pw_aload_n 1 (px_at td_Mo_readRail 74 rfl) rfl rfl ?_
  refine pw_getf (v := .inr (some (1, 7, 0))) (px_at td_Mo_readRail 75 rfl) lf_Mo_26 rfl rfl rfl ?_
  refine pw_iload_n 2 (px_at td_Mo_readRail 76 rfl) rfl rfl ?_
  refine pw_aload_n 1 (px_at td_Mo_readRail 77 rfl) rfl rfl ?_
  refine pw_iconst (v := 1) (px_at td_Mo_readRail 78 rfl) (by decide) ?_
  refine pw_sipush (v := 9999) (px_at td_Mo_readRail 79 rfl) (by decide) ?_
  obtain ⟨r12, σ12, hk12, h⟩ := px_b2_e h
  refine pw_cV1 (0, 0, 0) [.inl 1, .inl 9999] [.inl v1, .inr (some (1, 7, 0))] (px_at td_Mo_readRail 80 rfl) lV_Mo_165 rfl rfl rfl (Nat.le_of_ble_eq_true rfl) (by decide) (k_Mo_numeral hk12) ?_
  obtain ⟨hi13, h⟩ := px_gd_e h
  obtain ⟨σ14, hσ14, h⟩ := px_l_e h
  refine pw_ias (px_at td_Mo_readRail 81 rfl) rfl hi13 rfl hσ14 ?_
  refine pw_aload_n 1 (px_at td_Mo_readRail 82 rfl) rfl rfl ?_
  refine pw_getf (v := .inr (some (1, 8, 0))) (px_at td_Mo_readRail 83 rfl) lf_Mo_29 rfl rfl rfl ?_
  refine pw_iload_n 2 (px_at td_Mo_readRail 84 rfl) rfl rfl ?_
  refine pw_aload_n 1 (px_at td_Mo_readRail 85 rfl) rfl rfl ?_
  refine pw_iconst (v := 1) (px_at td_Mo_readRail 86 rfl) (by decide) ?_
  refine pw_sipush (v := 9999) (px_at td_Mo_readRail 87 rfl) (by decide) ?_
  obtain ⟨r15, σ15, hk15, h⟩ := px_b2_e h
  refine pw_cV1 (0, 0, 0) [.inl 1, .inl 9999] [.inl v1, .inr (some (1, 8, 0))] (px_at td_Mo_readRail 88 rfl) lV_Mo_165 rfl rfl rfl (Nat.le_of_ble_eq_true rfl) (by decide) (k_Mo_numeral hk15) ?_
  obtain ⟨hi16, h⟩ := px_gd_e h
  obtain ⟨σ17, hσ17, h⟩ := px_l_e h
  refine pw_ias (px_at td_Mo_readRail 89 rfl) rfl hi16 rfl hσ17 ?_
  refine pw_aload_n 1 (px_at td_Mo_readRail 90 rfl) rfl rfl ?_
  refine pw_getf (v := .inr (some (1, 9, 0))) (px_at td_Mo_readRail 91 rfl) lf_Mo_32 rfl rfl rfl ?_
  refine pw_iload_n 2 (px_at td_Mo_readRail 92 rfl) rfl rfl ?_
  refine pw_aload_n 1 (px_at td_Mo_readRail 93 rfl) rfl rfl ?_
  refine pw_iconst (v := 0) (px_at td_Mo_readRail 94 rfl) (by decide) ?_
  refine pw_bipush (v := 99) (px_at td_Mo_readRail 95 rfl) (by decide) ?_
  obtain ⟨r18, σ18, hk18, h⟩ := px_b2_e h
  refine pw_cV1 (0, 0, 0) [.inl 0, .inl 99] [.inl v1, .inr (some (1, 9, 0))] (px_at td_Mo_readRail 96 rfl) lV_Mo_165 rfl rfl rfl (Nat.le_of_ble_eq_true rfl) (by decide) (k_Mo_numeral hk18) ?_
  obtain ⟨hi19, h⟩ := px_gd_e h
  obtain ⟨σ20, hσ20, h⟩ := px_l_e h
  refine pw_ias (px_at td_Mo_readRail 97 rfl) rfl hi19 rfl hσ20 ?_
  refine pw_aload_n 1 (px_at td_Mo_readRail 98 rfl) rfl rfl ?_
  refine pw_getf (v := .inr (some (1, 10, 0))) (px_at td_Mo_readRail 99 rfl) lf_Mo_35 rfl rfl rfl ?_
  refine pw_iload_n 2 (px_at td_Mo_readRail 100 rfl) rfl rfl ?_
  refine pw_aload_n 1 (px_at td_Mo_readRail 101 rfl) rfl rfl ?_
  refine pw_iconst (v := 0) (px_at td_Mo_readRail 102 rfl) (by decide) ?_
  refine pw_sipush (v := 999) (px_at td_Mo_readRail 103 rfl) (by decide) ?_
  obtain ⟨r21, σ21, hk21, h⟩ := px_b2_e h
  refine pw_cV1 (0, 0, 0) [.inl 0, .inl 999] [.inl v1, .inr (some (1, 10, 0))] (px_at td_Mo_readRail 104 rfl) lV_Mo_165 rfl rfl rfl (Nat.le_of_ble_eq_true rfl) (by decide) (k_Mo_numeral hk21) ?_
  obtain ⟨hi22, h⟩ := px_gd_e h
  obtain ⟨σ23, hσ23, h⟩ := px_l_e h
  refine pw_ias (px_at td_Mo_readRail 105 rfl) rfl hi22 rfl hσ23 ?_
  refine pw_aload_n 1 (px_at td_Mo_readRail 106 rfl) rfl rfl ?_
  refine pw_getf (v := .inr (some (1, 11, 0))) (px_at td_Mo_readRail 107 rfl) lf_Mo_38 rfl rfl rfl ?_
  refine pw_iload_n 2 (px_at td_Mo_readRail 108 rfl) rfl rfl ?_
  refine pw_aload_n 1 (px_at td_Mo_readRail 109 rfl) rfl rfl ?_
  refine pw_iconst (v := 1) (px_at td_Mo_readRail 110 rfl) (by decide) ?_
  refine pw_ldc (v := 99999) (px_at td_Mo_readRail 111 rfl) lc_Mo_184 ?_
  obtain ⟨r24, σ24, hk24, h⟩ := px_b2_e h
  refine pw_cV1 (0, 0, 0) [.inl 1, .inl 99999] [.inl v1, .inr (some (1, 11, 0))] (px_at td_Mo_readRail 112 rfl) lV_Mo_165 rfl rfl rfl (Nat.le_of_ble_eq_true rfl) (by decide) (k_Mo_numeral hk24) ?_
  obtain ⟨hi25, h⟩ := px_gd_e h
  obtain ⟨σ26, hσ26, h⟩ := px_l_e h
  refine pw_ias (px_at td_Mo_readRail 113 rfl) rfl hi25 rfl hσ26 ?_
  refine pw_aload_n 1 (px_at td_Mo_readRail 114 rfl) rfl rfl ?_
  refine pw_getf (v := .inr (some (1, 12, 0))) (px_at td_Mo_readRail 115 rfl) lf_Mo_41 rfl rfl rfl ?_
  refine pw_iload_n 2 (px_at td_Mo_readRail 116 rfl) rfl rfl ?_
  refine pw_iconst (v := 0) (px_at td_Mo_readRail 117 rfl) (by decide) ?_
  obtain ⟨hi27, h⟩ := px_gd_e h
  obtain ⟨σ28, hσ28, h⟩ := px_l_e h
  refine pw_ias (px_at td_Mo_readRail 118 rfl) rfl hi27 rfl hσ28 ?_
  refine pw_aload_n 1 (px_at td_Mo_readRail 119 rfl) rfl rfl ?_
  refine pw_iconst (v := 0) (px_at td_Mo_readRail 120 rfl) (by decide) ?_
  refine pw_aload_n 1 (px_at td_Mo_readRail 121 rfl) rfl rfl ?_
  refine pw_iconst (v := 0) (px_at td_Mo_readRail 122 rfl) (by decide) ?_
  obtain ⟨r29, hk29, h⟩ := px_b1_e h
  refine pw_cV1 (0, 0, 0) [.inl 0] [.inl 0, .inr (some (0, 0, 0))] (px_at td_Mo_readRail 123 rfl) lV_Mo_173 rfl rfl rfl (Nat.le_of_ble_eq_true rfl) (by decide) (k_Mo_reading hk29) ?_
  refine pw_iconst (v := 1) (px_at td_Mo_readRail 124 rfl) (by decide) ?_
  refine pw_iadd (px_at td_Mo_readRail 125 rfl) ?_
  obtain ⟨σ30, hk30, h⟩ := px_b1_e h
  refine pw_cV0 (0, 0, 0) [.inl 0, .inl (r29 + 1)] [] (px_at td_Mo_readRail 126 rfl) lV_Mo_169 rfl rfl rfl (Nat.le_of_ble_eq_true rfl) (by decide) (k_Mo_reads hk30) ?_
  obtain rfl := Option.some.inj h
  exact pw_vret (px_at td_Mo_readRail 127 rfl) rfl (Nat.le_refl 0) (Nat.le_refl 0) hR
def Mo_readRail_n72 (σ : pxS) (v1 : Int32) : Option (pxS) :=
  (if (σ (0, 0, 0) 22) = 0 then px_gd v1 24 (px_l (px_up σ (1, 5, 0) v1.toNatClampNeg (σ (0, 0, 0) 21)) fun σ6 =>
  px_b1 (F_Mo_token σ6 ) fun σ7 =>
  (if (σ7 (0, 0, 0) 20) = 0 then (if (σ7 (0, 0, 0) 21) = 13 then px_gd v1 24 (px_l (px_up σ7 (1, 6, 0) v1.toNatClampNeg (-2)) fun σ32 =>
  px_b1 (F_Mo_goOn σ32 ) fun σ33 =>
  px_b2 (F_Mo_numeral σ33 1 9999) fun r34 σ34 =>
  px_gd v1 24 (px_l (px_up σ34 (1, 7, 0) v1.toNatClampNeg r34) fun σ36 =>
  px_b2 (F_Mo_numeral σ36 1 9999) fun r37 σ37 =>
  px_gd v1 24 (px_l (px_up σ37 (1, 8, 0) v1.toNatClampNeg r37) fun σ39 =>
  px_b2 (F_Mo_numeral σ39 0 99) fun r40 σ40 =>
  px_gd v1 24 (px_l (px_up σ40 (1, 9, 0) v1.toNatClampNeg r40) fun σ42 =>
  px_b2 (F_Mo_numeral σ42 0 999) fun r43 σ43 =>
  px_gd v1 24 (px_l (px_up σ43 (1, 10, 0) v1.toNatClampNeg r43) fun σ45 =>
  px_b2 (F_Mo_numeral σ45 1 99999) fun r46 σ46 =>
  px_gd v1 24 (px_l (px_up σ46 (1, 11, 0) v1.toNatClampNeg r46) fun σ48 =>
  px_gd v1 24 (px_l (px_up σ48 (1, 12, 0) v1.toNatClampNeg 0) fun σ50 =>
  px_b1 (F_Mo_reading σ50 0) fun r51 =>
  px_b1 (F_Mo_reads σ50 0 (r51 + 1)) fun σ52 =>
  some σ52))))))) else Mo_readRail_n114 σ7 v1) else Mo_readRail_n114 σ7 v1)) else some σ)
set_option maxRecDepth 100000 in
theorem Mo_readRail_n72_l {l : Launch} {ids : List pxI} {Rt : Option pxV → List pxI → pxG → pxS → Prop} {σ : pxS} {v1 : Int32} {res : pxS} (h : Mo_readRail_n72 σ v1 = some res) (hR : Rt none ids mG res) : pw l (px_R 10) y_Mo_readRail c_Mo_readRail 3 none 72 [(0, .inr (some (0, 0, 0))), (1, .inl v1)] [] ids mG σ 0 0 Rt := by
  unfold Mo_readRail_n72 at h
  refine pw_aload_n 0 (px_at td_Mo_readRail 39 rfl) rfl rfl ?_
  refine pw_getf (v := .inl (σ (0, 0, 0) 22)) (px_at td_Mo_readRail 40 rfl) lf_Mo_149 rfl rfl rfl ?_
  rcases px_ite h with ⟨hc55, h⟩ | ⟨hc55, h⟩
  · refine pw_if_eq 80 (px_at td_Mo_readRail 41 rfl) (by decide) (fun _ => ?_) (fun hn => absurd hc55 hn)
    refine pw_aload_n 0 (px_at td_Mo_readRail 43 rfl) rfl rfl ?_
    refine pw_getf (v := .inr (some (1, 5, 0))) (px_at td_Mo_readRail 44 rfl) lf_Mo_20 rfl rfl rfl ?_
    refine pw_iload_n 1 (px_at td_Mo_readRail 45 rfl) rfl rfl ?_
    refine pw_aload_n 0 (px_at td_Mo_readRail 46 rfl) rfl rfl ?_
    refine pw_getf (v := .inl (σ (0, 0, 0) 21)) (px_at td_Mo_readRail 47 rfl) lf_Mo_128 rfl rfl rfl ?_
    obtain ⟨hi5, h⟩ := px_gd_e h
    obtain ⟨σ6, hσ6, h⟩ := px_l_e h
    refine pw_ias (px_at td_Mo_readRail 48 rfl) rfl hi5 rfl hσ6 ?_
    refine pw_aload_n 0 (px_at td_Mo_readRail 49 rfl) rfl rfl ?_
    obtain ⟨σ7, hk7, h⟩ := px_b1_e h
    refine pw_cV0 (0, 0, 0) [] [] (px_at td_Mo_readRail 50 rfl) lV_Mo_155 rfl rfl rfl (Nat.le_of_ble_eq_true rfl) (by decide) (k_Mo_token hk7) ?_
    refine pw_aload_n 0 (px_at td_Mo_readRail 51 rfl) rfl rfl ?_
    refine pw_getf (v := .inl (σ7 (0, 0, 0) 20)) (px_at td_Mo_readRail 52 rfl) lf_Mo_118 rfl rfl rfl ?_
    rcases px_ite h with ⟨hc54, h⟩ | ⟨hc54, h⟩
    · refine pw_if_ne 114 (px_at td_Mo_readRail 53 rfl) (by decide) (fun hn => absurd hc54 hn) (fun _ => ?_)
      refine pw_aload_n 0 (px_at td_Mo_readRail 54 rfl) rfl rfl ?_
      refine pw_getf (v := .inl (σ7 (0, 0, 0) 21)) (px_at td_Mo_readRail 55 rfl) lf_Mo_128 rfl rfl rfl ?_
      refine pw_bipush (v := 13) (px_at td_Mo_readRail 56 rfl) (by decide) ?_
      rcases px_ite h with ⟨hc53, h⟩ | ⟨hc53, h⟩
      · refine pw_icmp_ne 114 (px_at td_Mo_readRail 57 rfl) (by decide) (fun hn => absurd hc53 hn) (fun _ => ?_)
        refine pw_iconst (v := 1) (px_at td_Mo_readRail 58 rfl) (by decide) ?_
        refine pw_goto 115 (px_at td_Mo_readRail 59 rfl) (by decide) ?_
        refine pw_istore_n (L' := [(2, .inl 1), (0, .inr (some (0, 0, 0))), (1, .inl v1)]) (px_at td_Mo_readRail 61 rfl) rfl (by decide) rfl ?_
        refine pw_aload_n 1 (px_at td_Mo_readRail 62 rfl) rfl rfl ?_
        refine pw_getf (v := .inr (some (1, 6, 0))) (px_at td_Mo_readRail 63 rfl) lf_Mo_23 rfl rfl rfl ?_
        refine pw_iload_n 2 (px_at td_Mo_readRail 64 rfl) rfl rfl ?_
        refine pw_iload_n 0 (px_at td_Mo_readRail 65 rfl) rfl rfl ?_
        refine pw_if_eq 130 (px_at td_Mo_readRail 66 rfl) (by decide) (fun hn => absurd hn (by decide)) (fun hn => ?_)
        refine pw_bipush (v := (-2)) (px_at td_Mo_readRail 67 rfl) (by decide) ?_
        refine pw_goto 134 (px_at td_Mo_readRail 68 rfl) (by decide) ?_
        obtain ⟨hi31, h⟩ := px_gd_e h
        obtain ⟨σ32, hσ32, h⟩ := px_l_e h
        refine pw_ias (px_at td_Mo_readRail 71 rfl) rfl hi31 rfl hσ32 ?_
        refine pw_aload_n 1 (px_at td_Mo_readRail 72 rfl) rfl rfl ?_
        obtain ⟨σ33, hk33, h⟩ := px_b1_e h
        refine pw_cV0 (0, 0, 0) [] [] (px_at td_Mo_readRail 73 rfl) lV_Mo_162 rfl rfl rfl (Nat.le_of_ble_eq_true rfl) (by decide) (k_Mo_goOn hk33) ?_
        refine pw_aload_n 1 (px_at td_Mo_readRail 74 rfl) rfl rfl ?_
        refine pw_getf (v := .inr (some (1, 7, 0))) (px_at td_Mo_readRail 75 rfl) lf_Mo_26 rfl rfl rfl ?_
        refine pw_iload_n 2 (px_at td_Mo_readRail 76 rfl) rfl rfl ?_
        refine pw_aload_n 1 (px_at td_Mo_readRail 77 rfl) rfl rfl ?_
        refine pw_iconst (v := 1) (px_at td_Mo_readRail 78 rfl) (by decide) ?_
        refine pw_sipush (v := 9999) (px_at td_Mo_readRail 79 rfl) (by decide) ?_
        obtain ⟨r34, σ34, hk34, h⟩ := px_b2_e h
        refine pw_cV1 (0, 0, 0) [.inl 1, .inl 9999] [.inl v1, .inr (some (1, 7, 0))] (px_at td_Mo_readRail 80 rfl) lV_Mo_165 rfl rfl rfl (Nat.le_of_ble_eq_true rfl) (by decide) (k_Mo_numeral hk34) ?_
        obtain ⟨hi35, h⟩ := px_gd_e h
        obtain ⟨σ36, hσ36, h⟩ := px_l_e h
        refine pw_ias (px_at td_Mo_readRail 81 rfl) rfl hi35 rfl hσ36 ?_
        refine pw_aload_n 1 (px_at td_Mo_readRail 82 rfl) rfl rfl ?_
        refine pw_getf (v := .inr (some (1, 8, 0))) (px_at td_Mo_readRail 83 rfl) lf_Mo_29 rfl rfl rfl ?_
        refine pw_iload_n 2 (px_at td_Mo_readRail 84 rfl) rfl rfl ?_
        refine pw_aload_n 1 (px_at td_Mo_readRail 85 rfl) rfl rfl ?_
        refine pw_iconst (v := 1) (px_at td_Mo_readRail 86 rfl) (by decide) ?_
        refine pw_sipush (v := 9999) (px_at td_Mo_readRail 87 rfl) (by decide) ?_
        obtain ⟨r37, σ37, hk37, h⟩ := px_b2_e h
        refine pw_cV1 (0, 0, 0) [.inl 1, .inl 9999] [.inl v1, .inr (some (1, 8, 0))] (px_at td_Mo_readRail 88 rfl) lV_Mo_165 rfl rfl rfl (Nat.le_of_ble_eq_true rfl) (by decide) (k_Mo_numeral hk37) ?_
        obtain ⟨hi38, h⟩ := px_gd_e h
        obtain ⟨σ39, hσ39, h⟩ := px_l_e h
        refine pw_ias (px_at td_Mo_readRail 89 rfl) rfl hi38 rfl hσ39 ?_
        refine pw_aload_n 1 (px_at td_Mo_readRail 90 rfl) rfl rfl ?_
        refine pw_getf (v := .inr (some (1, 9, 0))) (px_at td_Mo_readRail 91 rfl) lf_Mo_32 rfl rfl rfl ?_
        refine pw_iload_n 2 (px_at td_Mo_readRail 92 rfl) rfl rfl ?_
        refine pw_aload_n 1 (px_at td_Mo_readRail 93 rfl) rfl rfl ?_
        refine pw_iconst (v := 0) (px_at td_Mo_readRail 94 rfl) (by decide) ?_
        refine pw_bipush (v := 99) (px_at td_Mo_readRail 95 rfl) (by decide) ?_
        obtain ⟨r40, σ40, hk40, h⟩ := px_b2_e h
        refine pw_cV1 (0, 0, 0) [.inl 0, .inl 99] [.inl v1, .inr (some (1, 9, 0))] (px_at td_Mo_readRail 96 rfl) lV_Mo_165 rfl rfl rfl (Nat.le_of_ble_eq_true rfl) (by decide) (k_Mo_numeral hk40) ?_
        obtain ⟨hi41, h⟩ := px_gd_e h
        obtain ⟨σ42, hσ42, h⟩ := px_l_e h
        refine pw_ias (px_at td_Mo_readRail 97 rfl) rfl hi41 rfl hσ42 ?_
        refine pw_aload_n 1 (px_at td_Mo_readRail 98 rfl) rfl rfl ?_
        refine pw_getf (v := .inr (some (1, 10, 0))) (px_at td_Mo_readRail 99 rfl) lf_Mo_35 rfl rfl rfl ?_
        refine pw_iload_n 2 (px_at td_Mo_readRail 100 rfl) rfl rfl ?_
        refine pw_aload_n 1 (px_at td_Mo_readRail 101 rfl) rfl rfl ?_
        refine pw_iconst (v := 0) (px_at td_Mo_readRail 102 rfl) (by decide) ?_
        refine pw_sipush (v := 999) (px_at td_Mo_readRail 103 rfl) (by decide) ?_
        obtain ⟨r43, σ43, hk43, h⟩ := px_b2_e h
        refine pw_cV1 (0, 0, 0) [.inl 0, .inl 999] [.inl v1, .inr (some (1, 10, 0))] (px_at td_Mo_readRail 104 rfl) lV_Mo_165 rfl rfl rfl (Nat.le_of_ble_eq_true rfl) (by decide) (k_Mo_numeral hk43) ?_
        obtain ⟨hi44, h⟩ := px_gd_e h
        obtain ⟨σ45, hσ45, h⟩ := px_l_e h
        refine pw_ias (px_at td_Mo_readRail 105 rfl) rfl hi44 rfl hσ45 ?_
        refine pw_aload_n 1 (px_at td_Mo_readRail 106 rfl) rfl rfl ?_
        refine pw_getf (v := .inr (some (1, 11, 0))) (px_at td_Mo_readRail 107 rfl) lf_Mo_38 rfl rfl rfl ?_
        refine pw_iload_n 2 (px_at td_Mo_readRail 108 rfl) rfl rfl ?_
        refine pw_aload_n 1 (px_at td_Mo_readRail 109 rfl) rfl rfl ?_
        refine pw_iconst (v := 1) (px_at td_Mo_readRail 110 rfl) (by decide) ?_
        refine pw_ldc (v := 99999) (px_at td_Mo_readRail 111 rfl) lc_Mo_184 ?_
        obtain ⟨r46, σ46, hk46, h⟩ := px_b2_e h
        refine pw_cV1 (0, 0, 0) [.inl 1, .inl 99999] [.inl v1, .inr (some (1, 11, 0))] (px_at td_Mo_readRail 112 rfl) lV_Mo_165 rfl rfl rfl (Nat.le_of_ble_eq_true rfl) (by decide) (k_Mo_numeral hk46) ?_
        obtain ⟨hi47, h⟩ := px_gd_e h
        obtain ⟨σ48, hσ48, h⟩ := px_l_e h
        refine pw_ias (px_at td_Mo_readRail 113 rfl) rfl hi47 rfl hσ48 ?_
        refine pw_aload_n 1 (px_at td_Mo_readRail 114 rfl) rfl rfl ?_
        refine pw_getf (v := .inr (some (1, 12, 0))) (px_at td_Mo_readRail 115 rfl) lf_Mo_41 rfl rfl rfl ?_
        refine pw_iload_n 2 (px_at td_Mo_readRail 116 rfl) rfl rfl ?_
        refine pw_iconst (v := 0) (px_at td_Mo_readRail 117 rfl) (by decide) ?_
        obtain ⟨hi49, h⟩ := px_gd_e h
        obtain ⟨σ50, hσ50, h⟩ := px_l_e h
        refine pw_ias (px_at td_Mo_readRail 118 rfl) rfl hi49 rfl hσ50 ?_
        refine pw_aload_n 1 (px_at td_Mo_readRail 119 rfl) rfl rfl ?_
        refine pw_iconst (v := 0) (px_at td_Mo_readRail 120 rfl) (by decide) ?_
        refine pw_aload_n 1 (px_at td_Mo_readRail 121 rfl) rfl rfl ?_
        refine pw_iconst (v := 0) (px_at td_Mo_readRail 122 rfl) (by decide) ?_
        obtain ⟨r51, hk51, h⟩ := px_b1_e h
        refine pw_cV1 (0, 0, 0) [.inl 0] [.inl 0, .inr (some (0, 0, 0))] (px_at td_Mo_readRail 123 rfl) lV_Mo_173 rfl rfl rfl (Nat.le_of_ble_eq_true rfl) (by decide) (k_Mo_reading hk51) ?_
        refine pw_iconst (v := 1) (px_at td_Mo_readRail 124 rfl) (by decide) ?_
        refine pw_iadd (px_at td_Mo_readRail 125 rfl) ?_
        obtain ⟨σ52, hk52, h⟩ := px_b1_e h
        refine pw_cV0 (0, 0, 0) [.inl 0, .inl (r51 + 1)] [] (px_at td_Mo_readRail 126 rfl) lV_Mo_169 rfl rfl rfl (Nat.le_of_ble_eq_true rfl) (by decide) (k_Mo_reads hk52) ?_
        obtain rfl := Option.some.inj h
        exact pw_vret (px_at td_Mo_readRail 127 rfl) rfl (Nat.le_refl 0) (Nat.le_refl 0) hR
      · refine pw_icmp_ne 114 (px_at td_Mo_readRail 57 rfl) (by decide) (fun _ => ?_) (fun hn => absurd hn hc53)
        exact Mo_readRail_n114_l h hR
    · refine pw_if_ne 114 (px_at td_Mo_readRail 53 rfl) (by decide) (fun _ => ?_) (fun hn => absurd hn hc54)
      exact Mo_readRail_n114_l h hR
  · refine pw_if_eq 80 (px_at td_Mo_readRail 41 rfl) (by decide) (fun hn => absurd hn hc55) (fun _ => ?_)
    obtain rfl := Option.some.inj h
    exact pw_vret (px_at td_Mo_readRail 42 rfl) rfl (Nat.le_refl 0) (Nat.le_refl 0) hR
def Mo_readRail_n20 (σ : pxS) (v1 : Int32) : Option (pxS) :=
  px_b1 (F_Mo_goOn σ ) fun σ2 =>
  (if (σ2 (0, 0, 0) 22) = 0 then (if (σ2 (0, 0, 0) 20) = 1 then px_b1 (F_Mo_reading σ2 0) fun r3 =>
  px_b1 (F_Mo_namedAt σ2 12 r3 (σ2 (0, 0, 0) 21)) fun r4 =>
  (if r4 = (-1) then Mo_readRail_n72 σ2 v1 else px_b1 (F_Mo_wrong σ2 3) fun σ56 =>
  Mo_readRail_n72 σ56 v1) else px_b1 (F_Mo_wrong σ2 1) fun σ58 =>
  Mo_readRail_n72 σ58 v1) else some σ2)
set_option maxRecDepth 100000 in
theorem Mo_readRail_n20_l {l : Launch} {ids : List pxI} {Rt : Option pxV → List pxI → pxG → pxS → Prop} {σ : pxS} {v1 : Int32} {res : pxS} (h : Mo_readRail_n20 σ v1 = some res) (hR : Rt none ids mG res) : pw l (px_R 10) y_Mo_readRail c_Mo_readRail 3 none 20 [(0, .inr (some (0, 0, 0))), (1, .inl v1)] [] ids mG σ 0 0 Rt := by
  unfold Mo_readRail_n20 at h
  refine pw_aload_n 0 (px_at td_Mo_readRail 12 rfl) rfl rfl ?_
  obtain ⟨σ2, hk2, h⟩ := px_b1_e h
  refine pw_cV0 (0, 0, 0) [] [] (px_at td_Mo_readRail 13 rfl) lV_Mo_162 rfl rfl rfl (Nat.le_of_ble_eq_true rfl) (by decide) (k_Mo_goOn hk2) ?_
  refine pw_aload_n 0 (px_at td_Mo_readRail 14 rfl) rfl rfl ?_
  refine pw_getf (v := .inl (σ2 (0, 0, 0) 22)) (px_at td_Mo_readRail 15 rfl) lf_Mo_149 rfl rfl rfl ?_
  rcases px_ite h with ⟨hc60, h⟩ | ⟨hc60, h⟩
  · refine pw_if_eq 32 (px_at td_Mo_readRail 16 rfl) (by decide) (fun _ => ?_) (fun hn => absurd hc60 hn)
    refine pw_aload_n 0 (px_at td_Mo_readRail 18 rfl) rfl rfl ?_
    refine pw_getf (v := .inl (σ2 (0, 0, 0) 20)) (px_at td_Mo_readRail 19 rfl) lf_Mo_118 rfl rfl rfl ?_
    refine pw_iconst (v := 1) (px_at td_Mo_readRail 20 rfl) (by decide) ?_
    rcases px_ite h with ⟨hc59, h⟩ | ⟨hc59, h⟩
    · refine pw_icmp_eq 48 (px_at td_Mo_readRail 21 rfl) (by decide) (fun _ => ?_) (fun hn => absurd hc59 hn)
      refine pw_aload_n 0 (px_at td_Mo_readRail 26 rfl) rfl rfl ?_
      refine pw_bipush (v := 12) (px_at td_Mo_readRail 27 rfl) (by decide) ?_
      refine pw_aload_n 0 (px_at td_Mo_readRail 28 rfl) rfl rfl ?_
      refine pw_iconst (v := 0) (px_at td_Mo_readRail 29 rfl) (by decide) ?_
      obtain ⟨r3, hk3, h⟩ := px_b1_e h
      refine pw_cV1 (0, 0, 0) [.inl 0] [.inl 12, .inr (some (0, 0, 0))] (px_at td_Mo_readRail 30 rfl) lV_Mo_173 rfl rfl rfl (Nat.le_of_ble_eq_true rfl) (by decide) (k_Mo_reading hk3) ?_
      refine pw_aload_n 0 (px_at td_Mo_readRail 31 rfl) rfl rfl ?_
      refine pw_getf (v := .inl (σ2 (0, 0, 0) 21)) (px_at td_Mo_readRail 32 rfl) lf_Mo_128 rfl rfl rfl ?_
      obtain ⟨r4, hk4, h⟩ := px_b1_e h
      refine pw_cV1 (0, 0, 0) [.inl 12, .inl r3, .inl (σ2 (0, 0, 0) 21)] [] (px_at td_Mo_readRail 33 rfl) lV_Mo_177 rfl rfl rfl (Nat.le_of_ble_eq_true rfl) (by decide) (k_Mo_namedAt hk4) ?_
      refine pw_iconst (v := (-1)) (px_at td_Mo_readRail 34 rfl) (by decide) ?_
      rcases px_ite h with ⟨hc57, h⟩ | ⟨hc57, h⟩
      · refine pw_icmp_eq 72 (px_at td_Mo_readRail 35 rfl) (by decide) (fun _ => ?_) (fun hn => absurd hc57 hn)
        exact Mo_readRail_n72_l h hR
      · refine pw_icmp_eq 72 (px_at td_Mo_readRail 35 rfl) (by decide) (fun hn => absurd hn hc57) (fun _ => ?_)
        refine pw_aload_n 0 (px_at td_Mo_readRail 36 rfl) rfl rfl ?_
        refine pw_iconst (v := 3) (px_at td_Mo_readRail 37 rfl) (by decide) ?_
        obtain ⟨σ56, hk56, h⟩ := px_b1_e h
        refine pw_cV0 (0, 0, 0) [.inl 3] [] (px_at td_Mo_readRail 38 rfl) lV_Mo_158 rfl rfl rfl (Nat.le_of_ble_eq_true rfl) (by decide) (k_Mo_wrong hk56) ?_
        exact Mo_readRail_n72_l h hR
    · refine pw_icmp_eq 48 (px_at td_Mo_readRail 21 rfl) (by decide) (fun hn => absurd hn hc59) (fun _ => ?_)
      refine pw_aload_n 0 (px_at td_Mo_readRail 22 rfl) rfl rfl ?_
      refine pw_iconst (v := 1) (px_at td_Mo_readRail 23 rfl) (by decide) ?_
      obtain ⟨σ58, hk58, h⟩ := px_b1_e h
      refine pw_cV0 (0, 0, 0) [.inl 1] [] (px_at td_Mo_readRail 24 rfl) lV_Mo_158 rfl rfl rfl (Nat.le_of_ble_eq_true rfl) (by decide) (k_Mo_wrong hk58) ?_
      refine pw_goto 72 (px_at td_Mo_readRail 25 rfl) (by decide) ?_
      exact Mo_readRail_n72_l h hR
  · refine pw_if_eq 32 (px_at td_Mo_readRail 16 rfl) (by decide) (fun hn => absurd hn hc60) (fun _ => ?_)
    obtain rfl := Option.some.inj h
    exact pw_vret (px_at td_Mo_readRail 17 rfl) rfl (Nat.le_refl 0) (Nat.le_refl 0) hR
def F_Mo_readRail (σ : pxS)  : Option (pxS) :=
  px_b1 (F_Mo_reading σ 0) fun r1 =>
  (if (12 + r1) = 24 then px_b1 (F_Mo_wrong σ 2) fun σ61 =>
  Mo_readRail_n20 σ61 (12 + r1) else Mo_readRail_n20 σ (12 + r1))
set_option maxRecDepth 100000 in
theorem e_Mo_readRail {l : Launch} {ids : List pxI} {Rt : Option pxV → List pxI → pxG → pxS → Prop} {σ : pxS}  {res : pxS} (h : F_Mo_readRail σ  = some res) (hR : Rt none ids mG res) : pw l (px_R 10) y_Mo_readRail c_Mo_readRail 3 none 0 [(0, .inr (some (0, 0, 0)))] [] ids mG σ 0 0 Rt := by
  unfold F_Mo_readRail at h
  refine pw_bipush (v := 12) (px_at td_Mo_readRail 0 rfl) (by decide) ?_
  refine pw_aload_n 0 (px_at td_Mo_readRail 1 rfl) rfl rfl ?_
  refine pw_iconst (v := 0) (px_at td_Mo_readRail 2 rfl) (by decide) ?_
  obtain ⟨r1, hk1, h⟩ := px_b1_e h
  refine pw_cV1 (0, 0, 0) [.inl 0] [.inl 12] (px_at td_Mo_readRail 3 rfl) lV_Mo_173 rfl rfl rfl (Nat.le_of_ble_eq_true rfl) (by decide) (k_Mo_reading hk1) ?_
  refine pw_iadd (px_at td_Mo_readRail 4 rfl) ?_
  refine pw_istore_n (L' := [(1, .inl (12 + r1)), (0, .inr (some (0, 0, 0)))]) (px_at td_Mo_readRail 5 rfl) rfl (by decide) rfl ?_
  refine pw_iload_n 0 (px_at td_Mo_readRail 6 rfl) rfl rfl ?_
  refine pw_bipush (v := 24) (px_at td_Mo_readRail 7 rfl) (by decide) ?_
  rcases px_ite h with ⟨hc62, h⟩ | ⟨hc62, h⟩
  · refine pw_icmp_ne 20 (px_at td_Mo_readRail 8 rfl) (by decide) (fun hn => absurd hc62 hn) (fun _ => ?_)
    refine pw_aload_n 1 (px_at td_Mo_readRail 9 rfl) rfl rfl ?_
    refine pw_iconst (v := 2) (px_at td_Mo_readRail 10 rfl) (by decide) ?_
    obtain ⟨σ61, hk61, h⟩ := px_b1_e h
    refine pw_cV0 (0, 0, 0) [.inl 2] [] (px_at td_Mo_readRail 11 rfl) lV_Mo_158 rfl rfl rfl (Nat.le_of_ble_eq_true rfl) (by decide) (k_Mo_wrong hk61) ?_
    refine pw_L [(0, .inr (some (0, 0, 0))), (1, .inl (12 + r1))] [1, 0] rfl ?_
    exact Mo_readRail_n20_l h hR
  · refine pw_icmp_ne 20 (px_at td_Mo_readRail 8 rfl) (by decide) (fun _ => ?_) (fun hn => absurd hn hc62)
    refine pw_L [(0, .inr (some (0, 0, 0))), (1, .inl (12 + r1))] [1, 0] rfl ?_
    exact Mo_readRail_n20_l h hR
theorem k_Mo_readRail {l : Launch} {ids : List pxI} {σ : pxS}  {res : pxS} (h : F_Mo_readRail σ  = some res) : pm l y_Mo_readRail c_Mo_readRail 3 none (px_R 10) [.inr (some (0, 0, 0))] ids mG σ (px_r none ids mG res) :=
  pm_ofF (by decide +kernel) (Nat.le_of_ble_eq_true rfl) (e_Mo_readRail h ⟨rfl, rfl, rfl, rfl⟩)
/-! Mo_readNeeds -/
def Mo_readNeeds_n79 (σ : pxS) (v1 : Int32) (v2 : Int32) : Option (pxS) :=
  (if (σ (0, 0, 0) 22) = 0 then px_gd (12 + v1) 24 (px_gd (12 + v1) 24 (px_l (px_up σ (1, 12, 0) (12 + v1).toNatClampNeg ((σ (1, 12, 0) (12 + v1).toNatClampNeg) ||| (1 <<< (v2 &&& 31)))) fun σ8 =>
  px_b1 (F_Mo_token σ8 ) fun σ9 =>
  px_b1 (F_Mo_reading σ9 1) fun r10 =>
  px_b1 (F_Mo_reads σ9 1 (r10 + 1)) fun σ11 =>
  some σ11)) else some σ)
set_option maxRecDepth 100000 in
theorem Mo_readNeeds_n79_l {l : Launch} {ids : List pxI} {Rt : Option pxV → List pxI → pxG → pxS → Prop} {σ : pxS} {v1 : Int32} {v2 : Int32} {res : pxS} (h : Mo_readNeeds_n79 σ v1 v2 = some res) (hR : Rt none ids mG res) : pw l (px_R 9) y_Mo_readNeeds c_Mo_readNeeds 3 none 79 [(0, .inr (some (0, 0, 0))), (1, .inl v1), (2, .inl v2)] [] ids mG σ 0 0 Rt := by
  unfold Mo_readNeeds_n79 at h
  refine pw_aload_n 0 (px_at td_Mo_readNeeds 45 rfl) rfl rfl ?_
  refine pw_getf (v := .inl (σ (0, 0, 0) 22)) (px_at td_Mo_readNeeds 46 rfl) lf_Mo_149 rfl rfl rfl ?_
  rcases px_ite h with ⟨hc12, h⟩ | ⟨hc12, h⟩
  · refine pw_if_eq 87 (px_at td_Mo_readNeeds 47 rfl) (by decide) (fun _ => ?_) (fun hn => absurd hc12 hn)
    refine pw_aload_n 0 (px_at td_Mo_readNeeds 49 rfl) rfl rfl ?_
    refine pw_getf (v := .inr (some (1, 12, 0))) (px_at td_Mo_readNeeds 50 rfl) lf_Mo_41 rfl rfl rfl ?_
    refine pw_bipush (v := 12) (px_at td_Mo_readNeeds 51 rfl) (by decide) ?_
    refine pw_iload_n 1 (px_at td_Mo_readNeeds 52 rfl) rfl rfl ?_
    refine pw_iadd (px_at td_Mo_readNeeds 53 rfl) ?_
    refine pw_dup2 (px_at td_Mo_readNeeds 54 rfl) ?_
    obtain ⟨hi6, h⟩ := px_gd_e h
    refine pw_ial (px_at td_Mo_readNeeds 55 rfl) rfl hi6 rfl ?_
    refine pw_iconst (v := 1) (px_at td_Mo_readNeeds 56 rfl) (by decide) ?_
    refine pw_iload_n 2 (px_at td_Mo_readNeeds 57 rfl) rfl rfl ?_
    refine pw_ishl (px_at td_Mo_readNeeds 58 rfl) ?_
    refine pw_ior (px_at td_Mo_readNeeds 59 rfl) ?_
    obtain ⟨hi7, h⟩ := px_gd_e h
    obtain ⟨σ8, hσ8, h⟩ := px_l_e h
    refine pw_ias (px_at td_Mo_readNeeds 60 rfl) rfl hi7 rfl hσ8 ?_
    refine pw_aload_n 0 (px_at td_Mo_readNeeds 61 rfl) rfl rfl ?_
    obtain ⟨σ9, hk9, h⟩ := px_b1_e h
    refine pw_cV0 (0, 0, 0) [] [] (px_at td_Mo_readNeeds 62 rfl) lV_Mo_155 rfl rfl rfl (Nat.le_of_ble_eq_true rfl) (by decide) (k_Mo_token hk9) ?_
    refine pw_aload_n 0 (px_at td_Mo_readNeeds 63 rfl) rfl rfl ?_
    refine pw_iconst (v := 1) (px_at td_Mo_readNeeds 64 rfl) (by decide) ?_
    refine pw_aload_n 0 (px_at td_Mo_readNeeds 65 rfl) rfl rfl ?_
    refine pw_iconst (v := 1) (px_at td_Mo_readNeeds 66 rfl) (by decide) ?_
    obtain ⟨r10, hk10, h⟩ := px_b1_e h
    refine pw_cV1 (0, 0, 0) [.inl 1] [.inl 1, .inr (some (0, 0, 0))] (px_at td_Mo_readNeeds 67 rfl) lV_Mo_173 rfl rfl rfl (Nat.le_of_ble_eq_true rfl) (by decide) (k_Mo_reading hk10) ?_
    refine pw_iconst (v := 1) (px_at td_Mo_readNeeds 68 rfl) (by decide) ?_
    refine pw_iadd (px_at td_Mo_readNeeds 69 rfl) ?_
    obtain ⟨σ11, hk11, h⟩ := px_b1_e h
    refine pw_cV0 (0, 0, 0) [.inl 1, .inl (r10 + 1)] [] (px_at td_Mo_readNeeds 70 rfl) lV_Mo_169 rfl rfl rfl (Nat.le_of_ble_eq_true rfl) (by decide) (k_Mo_reads hk11) ?_
    obtain rfl := Option.some.inj h
    exact pw_vret (px_at td_Mo_readNeeds 71 rfl) rfl (Nat.le_refl 0) (Nat.le_refl 0) hR
  · refine pw_if_eq 87 (px_at td_Mo_readNeeds 47 rfl) (by decide) (fun hn => absurd hn hc12) (fun _ => ?_)
    obtain rfl := Option.some.inj h
    exact pw_vret (px_at td_Mo_readNeeds 48 rfl) rfl (Nat.le_refl 0) (Nat.le_refl 0) hR
def Mo_readNeeds_n50 (σ : pxS) (v1 : Int32) (v2 : Int32) : Option (pxS) :=
  (if (σ (0, 0, 0) 22) = 0 then px_gd (12 + v1) 24 ((if (((σ (1, 12, 0) (12 + v1).toNatClampNeg) >>> (v2 &&& 31)) &&& 1) = 1 then px_b1 (F_Mo_wrong σ 3) fun σ14 =>
  Mo_readNeeds_n79 σ14 v1 v2 else Mo_readNeeds_n79 σ v1 v2)) else Mo_readNeeds_n79 σ v1 v2)
set_option maxRecDepth 100000 in
theorem Mo_readNeeds_n50_l {l : Launch} {ids : List pxI} {Rt : Option pxV → List pxI → pxG → pxS → Prop} {σ : pxS} {v1 : Int32} {v2 : Int32} {res : pxS} (h : Mo_readNeeds_n50 σ v1 v2 = some res) (hR : Rt none ids mG res) : pw l (px_R 9) y_Mo_readNeeds c_Mo_readNeeds 3 none 50 [(0, .inr (some (0, 0, 0))), (1, .inl v1), (2, .inl v2)] [] ids mG σ 0 0 Rt := by
  unfold Mo_readNeeds_n50 at h
  refine pw_aload_n 0 (px_at td_Mo_readNeeds 27 rfl) rfl rfl ?_
  refine pw_getf (v := .inl (σ (0, 0, 0) 22)) (px_at td_Mo_readNeeds 28 rfl) lf_Mo_149 rfl rfl rfl ?_
  rcases px_ite h with ⟨hc16, h⟩ | ⟨hc16, h⟩
  · refine pw_if_ne 79 (px_at td_Mo_readNeeds 29 rfl) (by decide) (fun hn => absurd hc16 hn) (fun _ => ?_)
    refine pw_aload_n 0 (px_at td_Mo_readNeeds 30 rfl) rfl rfl ?_
    refine pw_getf (v := .inr (some (1, 12, 0))) (px_at td_Mo_readNeeds 31 rfl) lf_Mo_41 rfl rfl rfl ?_
    refine pw_bipush (v := 12) (px_at td_Mo_readNeeds 32 rfl) (by decide) ?_
    refine pw_iload_n 1 (px_at td_Mo_readNeeds 33 rfl) rfl rfl ?_
    refine pw_iadd (px_at td_Mo_readNeeds 34 rfl) ?_
    obtain ⟨hi13, h⟩ := px_gd_e h
    refine pw_ial (px_at td_Mo_readNeeds 35 rfl) rfl hi13 rfl ?_
    refine pw_iload_n 2 (px_at td_Mo_readNeeds 36 rfl) rfl rfl ?_
    refine pw_ishr (px_at td_Mo_readNeeds 37 rfl) ?_
    refine pw_iconst (v := 1) (px_at td_Mo_readNeeds 38 rfl) (by decide) ?_
    refine pw_iand (px_at td_Mo_readNeeds 39 rfl) ?_
    refine pw_iconst (v := 1) (px_at td_Mo_readNeeds 40 rfl) (by decide) ?_
    rcases px_ite h with ⟨hc15, h⟩ | ⟨hc15, h⟩
    · refine pw_icmp_ne 79 (px_at td_Mo_readNeeds 41 rfl) (by decide) (fun hn => absurd hc15 hn) (fun _ => ?_)
      refine pw_aload_n 0 (px_at td_Mo_readNeeds 42 rfl) rfl rfl ?_
      refine pw_iconst (v := 3) (px_at td_Mo_readNeeds 43 rfl) (by decide) ?_
      obtain ⟨σ14, hk14, h⟩ := px_b1_e h
      refine pw_cV0 (0, 0, 0) [.inl 3] [] (px_at td_Mo_readNeeds 44 rfl) lV_Mo_158 rfl rfl rfl (Nat.le_of_ble_eq_true rfl) (by decide) (k_Mo_wrong hk14) ?_
      exact Mo_readNeeds_n79_l h hR
    · refine pw_icmp_ne 79 (px_at td_Mo_readNeeds 41 rfl) (by decide) (fun _ => ?_) (fun hn => absurd hn hc15)
      exact Mo_readNeeds_n79_l h hR
  · refine pw_if_ne 79 (px_at td_Mo_readNeeds 29 rfl) (by decide) (fun _ => ?_) (fun hn => absurd hn hc16)
    exact Mo_readNeeds_n79_l h hR
def Mo_readNeeds_n15 (σ : pxS)  : Option (pxS) :=
  px_b1 (F_Mo_goOn σ ) fun σ2 =>
  px_b2 (F_Mo_railHere σ2 ) fun r3 σ3 =>
  px_b1 (F_Mo_goOn σ3 ) fun σ4 =>
  px_b2 (F_Mo_railHere σ4 ) fun r5 σ5 =>
  (if (σ5 (0, 0, 0) 22) = 0 then (if r3 = r5 then px_b1 (F_Mo_wrong σ5 2) fun σ17 =>
  Mo_readNeeds_n50 σ17 r3 r5 else Mo_readNeeds_n50 σ5 r3 r5) else Mo_readNeeds_n50 σ5 r3 r5)
set_option maxRecDepth 100000 in
theorem Mo_readNeeds_n15_l {l : Launch} {ids : List pxI} {Rt : Option pxV → List pxI → pxG → pxS → Prop} {σ : pxS}  {res : pxS} (h : Mo_readNeeds_n15 σ  = some res) (hR : Rt none ids mG res) : pw l (px_R 9) y_Mo_readNeeds c_Mo_readNeeds 3 none 15 [(0, .inr (some (0, 0, 0)))] [] ids mG σ 0 0 Rt := by
  unfold Mo_readNeeds_n15 at h
  refine pw_aload_n 0 (px_at td_Mo_readNeeds 8 rfl) rfl rfl ?_
  obtain ⟨σ2, hk2, h⟩ := px_b1_e h
  refine pw_cV0 (0, 0, 0) [] [] (px_at td_Mo_readNeeds 9 rfl) lV_Mo_162 rfl rfl rfl (Nat.le_of_ble_eq_true rfl) (by decide) (k_Mo_goOn hk2) ?_
  refine pw_aload_n 0 (px_at td_Mo_readNeeds 10 rfl) rfl rfl ?_
  obtain ⟨r3, σ3, hk3, h⟩ := px_b2_e h
  refine pw_cV1 (0, 0, 0) [] [] (px_at td_Mo_readNeeds 11 rfl) lV_Mo_181 rfl rfl rfl (Nat.le_of_ble_eq_true rfl) (by decide) (k_Mo_railHere hk3) ?_
  refine pw_istore_n (L' := [(1, .inl r3), (0, .inr (some (0, 0, 0)))]) (px_at td_Mo_readNeeds 12 rfl) rfl (by decide) rfl ?_
  refine pw_aload_n 1 (px_at td_Mo_readNeeds 13 rfl) rfl rfl ?_
  obtain ⟨σ4, hk4, h⟩ := px_b1_e h
  refine pw_cV0 (0, 0, 0) [] [] (px_at td_Mo_readNeeds 14 rfl) lV_Mo_162 rfl rfl rfl (Nat.le_of_ble_eq_true rfl) (by decide) (k_Mo_goOn hk4) ?_
  refine pw_aload_n 1 (px_at td_Mo_readNeeds 15 rfl) rfl rfl ?_
  obtain ⟨r5, σ5, hk5, h⟩ := px_b2_e h
  refine pw_cV1 (0, 0, 0) [] [] (px_at td_Mo_readNeeds 16 rfl) lV_Mo_181 rfl rfl rfl (Nat.le_of_ble_eq_true rfl) (by decide) (k_Mo_railHere hk5) ?_
  refine pw_istore_n (L' := [(2, .inl r5), (1, .inl r3), (0, .inr (some (0, 0, 0)))]) (px_at td_Mo_readNeeds 17 rfl) rfl (by decide) rfl ?_
  refine pw_aload_n 2 (px_at td_Mo_readNeeds 18 rfl) rfl rfl ?_
  refine pw_getf (v := .inl (σ5 (0, 0, 0) 22)) (px_at td_Mo_readNeeds 19 rfl) lf_Mo_149 rfl rfl rfl ?_
  rcases px_ite h with ⟨hc19, h⟩ | ⟨hc19, h⟩
  · refine pw_if_ne 50 (px_at td_Mo_readNeeds 20 rfl) (by decide) (fun hn => absurd hc19 hn) (fun _ => ?_)
    refine pw_iload_n 1 (px_at td_Mo_readNeeds 21 rfl) rfl rfl ?_
    refine pw_iload_n 0 (px_at td_Mo_readNeeds 22 rfl) rfl rfl ?_
    rcases px_ite h with ⟨hc18, h⟩ | ⟨hc18, h⟩
    · refine pw_icmp_ne 50 (px_at td_Mo_readNeeds 23 rfl) (by decide) (fun hn => absurd hc18 hn) (fun _ => ?_)
      refine pw_aload_n 2 (px_at td_Mo_readNeeds 24 rfl) rfl rfl ?_
      refine pw_iconst (v := 2) (px_at td_Mo_readNeeds 25 rfl) (by decide) ?_
      obtain ⟨σ17, hk17, h⟩ := px_b1_e h
      refine pw_cV0 (0, 0, 0) [.inl 2] [] (px_at td_Mo_readNeeds 26 rfl) lV_Mo_158 rfl rfl rfl (Nat.le_of_ble_eq_true rfl) (by decide) (k_Mo_wrong hk17) ?_
      refine pw_L [(0, .inr (some (0, 0, 0))), (1, .inl r3), (2, .inl r5)] [2, 1, 0] rfl ?_
      exact Mo_readNeeds_n50_l h hR
    · refine pw_icmp_ne 50 (px_at td_Mo_readNeeds 23 rfl) (by decide) (fun _ => ?_) (fun hn => absurd hn hc18)
      refine pw_L [(0, .inr (some (0, 0, 0))), (1, .inl r3), (2, .inl r5)] [2, 1, 0] rfl ?_
      exact Mo_readNeeds_n50_l h hR
  · refine pw_if_ne 50 (px_at td_Mo_readNeeds 20 rfl) (by decide) (fun _ => ?_) (fun hn => absurd hn hc19)
    refine pw_L [(0, .inr (some (0, 0, 0))), (1, .inl r3), (2, .inl r5)] [2, 1, 0] rfl ?_
    exact Mo_readNeeds_n50_l h hR
def F_Mo_readNeeds (σ : pxS)  : Option (pxS) :=
  px_b1 (F_Mo_reading σ 1) fun r1 =>
  (if r1 = 20 then px_b1 (F_Mo_wrong σ 2) fun σ20 =>
  Mo_readNeeds_n15 σ20  else Mo_readNeeds_n15 σ )
set_option maxRecDepth 100000 in
theorem e_Mo_readNeeds {l : Launch} {ids : List pxI} {Rt : Option pxV → List pxI → pxG → pxS → Prop} {σ : pxS}  {res : pxS} (h : F_Mo_readNeeds σ  = some res) (hR : Rt none ids mG res) : pw l (px_R 9) y_Mo_readNeeds c_Mo_readNeeds 3 none 0 [(0, .inr (some (0, 0, 0)))] [] ids mG σ 0 0 Rt := by
  unfold F_Mo_readNeeds at h
  refine pw_aload_n 0 (px_at td_Mo_readNeeds 0 rfl) rfl rfl ?_
  refine pw_iconst (v := 1) (px_at td_Mo_readNeeds 1 rfl) (by decide) ?_
  obtain ⟨r1, hk1, h⟩ := px_b1_e h
  refine pw_cV1 (0, 0, 0) [.inl 1] [] (px_at td_Mo_readNeeds 2 rfl) lV_Mo_173 rfl rfl rfl (Nat.le_of_ble_eq_true rfl) (by decide) (k_Mo_reading hk1) ?_
  refine pw_bipush (v := 20) (px_at td_Mo_readNeeds 3 rfl) (by decide) ?_
  rcases px_ite h with ⟨hc21, h⟩ | ⟨hc21, h⟩
  · refine pw_icmp_ne 15 (px_at td_Mo_readNeeds 4 rfl) (by decide) (fun hn => absurd hc21 hn) (fun _ => ?_)
    refine pw_aload_n 0 (px_at td_Mo_readNeeds 5 rfl) rfl rfl ?_
    refine pw_iconst (v := 2) (px_at td_Mo_readNeeds 6 rfl) (by decide) ?_
    obtain ⟨σ20, hk20, h⟩ := px_b1_e h
    refine pw_cV0 (0, 0, 0) [.inl 2] [] (px_at td_Mo_readNeeds 7 rfl) lV_Mo_158 rfl rfl rfl (Nat.le_of_ble_eq_true rfl) (by decide) (k_Mo_wrong hk20) ?_
    exact Mo_readNeeds_n15_l h hR
  · refine pw_icmp_ne 15 (px_at td_Mo_readNeeds 4 rfl) (by decide) (fun _ => ?_) (fun hn => absurd hn hc21)
    exact Mo_readNeeds_n15_l h hR
theorem k_Mo_readNeeds {l : Launch} {ids : List pxI} {σ : pxS}  {res : pxS} (h : F_Mo_readNeeds σ  = some res) : pm l y_Mo_readNeeds c_Mo_readNeeds 3 none (px_R 9) [.inr (some (0, 0, 0))] ids mG σ (px_r none ids mG res) :=
  pm_ofF (by decide +kernel) (Nat.le_of_ble_eq_true rfl) (e_Mo_readNeeds h ⟨rfl, rfl, rfl, rfl⟩)
/-! Mo_readStep -/
def Mo_readStep_n51 (σ : pxS) (v1 : Int32) (v2 : Int32) (v3 : Int32) : Option (pxS) :=
  px_b2 (F_Mo_numeral σ 1 99) fun r3 σ3 =>
  (if (σ3 (0, 0, 0) 22) = 0 then px_gd v2 48 (px_l (px_up σ3 (1, 13, 0) v2.toNatClampNeg (v1 - 2)) fun σ5 =>
  px_gd v2 48 (px_l (px_up σ5 (1, 14, 0) v2.toNatClampNeg v3) fun σ7 =>
  px_gd v2 48 (px_l (px_up σ7 (1, 15, 0) v2.toNatClampNeg r3) fun σ9 =>
  px_b1 (F_Mo_reading σ9 2) fun r10 =>
  px_b1 (F_Mo_reads σ9 2 (r10 + 1)) fun σ11 =>
  some σ11))) else some σ3)
set_option maxRecDepth 100000 in
theorem Mo_readStep_n51_l {l : Launch} {ids : List pxI} {Rt : Option pxV → List pxI → pxG → pxS → Prop} {σ : pxS} {v1 : Int32} {v2 : Int32} {v3 : Int32} {res : pxS} (h : Mo_readStep_n51 σ v1 v2 v3 = some res) (hR : Rt none ids mG res) : pw l (px_R 10) y_Mo_readStep c_Mo_readStep 5 none 51 [(0, .inr (some (0, 0, 0))), (1, .inl v1), (2, .inl v2), (3, .inl v3)] [] ids mG σ 0 0 Rt := by
  unfold Mo_readStep_n51 at h
  refine pw_aload_n 0 (px_at td_Mo_readStep 30 rfl) rfl rfl ?_
  refine pw_iconst (v := 1) (px_at td_Mo_readStep 31 rfl) (by decide) ?_
  refine pw_bipush (v := 99) (px_at td_Mo_readStep 32 rfl) (by decide) ?_
  obtain ⟨r3, σ3, hk3, h⟩ := px_b2_e h
  refine pw_cV1 (0, 0, 0) [.inl 1, .inl 99] [] (px_at td_Mo_readStep 33 rfl) lV_Mo_165 rfl rfl rfl (Nat.le_of_ble_eq_true rfl) (by decide) (k_Mo_numeral hk3) ?_
  refine pw_goto 62 (px_at td_Mo_readStep 34 rfl) (by decide) ?_
  refine pw_istore (L' := [(4, .inl r3), (0, .inr (some (0, 0, 0))), (1, .inl v1), (2, .inl v2), (3, .inl v3)]) (px_at td_Mo_readStep 36 rfl) (by decide) rfl ?_
  refine pw_aload_n 1 (px_at td_Mo_readStep 37 rfl) rfl rfl ?_
  refine pw_getf (v := .inl (σ3 (0, 0, 0) 22)) (px_at td_Mo_readStep 38 rfl) lf_Mo_149 rfl rfl rfl ?_
  rcases px_ite h with ⟨hc12, h⟩ | ⟨hc12, h⟩
  · refine pw_if_eq 72 (px_at td_Mo_readStep 39 rfl) (by decide) (fun _ => ?_) (fun hn => absurd hc12 hn)
    refine pw_aload_n 1 (px_at td_Mo_readStep 41 rfl) rfl rfl ?_
    refine pw_getf (v := .inr (some (1, 13, 0))) (px_at td_Mo_readStep 42 rfl) lf_Mo_44 rfl rfl rfl ?_
    refine pw_iload_n 3 (px_at td_Mo_readStep 43 rfl) rfl rfl ?_
    refine pw_iload_n 2 (px_at td_Mo_readStep 44 rfl) rfl rfl ?_
    refine pw_iconst (v := 2) (px_at td_Mo_readStep 45 rfl) (by decide) ?_
    refine pw_isub (px_at td_Mo_readStep 46 rfl) ?_
    obtain ⟨hi4, h⟩ := px_gd_e h
    obtain ⟨σ5, hσ5, h⟩ := px_l_e h
    refine pw_ias (px_at td_Mo_readStep 47 rfl) rfl hi4 rfl hσ5 ?_
    refine pw_aload_n 1 (px_at td_Mo_readStep 48 rfl) rfl rfl ?_
    refine pw_getf (v := .inr (some (1, 14, 0))) (px_at td_Mo_readStep 49 rfl) lf_Mo_47 rfl rfl rfl ?_
    refine pw_iload_n 3 (px_at td_Mo_readStep 50 rfl) rfl rfl ?_
    refine pw_iload_n 4 (px_at td_Mo_readStep 51 rfl) rfl rfl ?_
    obtain ⟨hi6, h⟩ := px_gd_e h
    obtain ⟨σ7, hσ7, h⟩ := px_l_e h
    refine pw_ias (px_at td_Mo_readStep 52 rfl) rfl hi6 rfl hσ7 ?_
    refine pw_aload_n 1 (px_at td_Mo_readStep 53 rfl) rfl rfl ?_
    refine pw_getf (v := .inr (some (1, 15, 0))) (px_at td_Mo_readStep 54 rfl) lf_Mo_50 rfl rfl rfl ?_
    refine pw_iload_n 3 (px_at td_Mo_readStep 55 rfl) rfl rfl ?_
    refine pw_iload 0 (px_at td_Mo_readStep 56 rfl) rfl ?_
    obtain ⟨hi8, h⟩ := px_gd_e h
    obtain ⟨σ9, hσ9, h⟩ := px_l_e h
    refine pw_ias (px_at td_Mo_readStep 57 rfl) rfl hi8 rfl hσ9 ?_
    refine pw_aload_n 1 (px_at td_Mo_readStep 58 rfl) rfl rfl ?_
    refine pw_iconst (v := 2) (px_at td_Mo_readStep 59 rfl) (by decide) ?_
    refine pw_aload_n 1 (px_at td_Mo_readStep 60 rfl) rfl rfl ?_
    refine pw_iconst (v := 2) (px_at td_Mo_readStep 61 rfl) (by decide) ?_
    obtain ⟨r10, hk10, h⟩ := px_b1_e h
    refine pw_cV1 (0, 0, 0) [.inl 2] [.inl 2, .inr (some (0, 0, 0))] (px_at td_Mo_readStep 62 rfl) lV_Mo_173 rfl rfl rfl (Nat.le_of_ble_eq_true rfl) (by decide) (k_Mo_reading hk10) ?_
    refine pw_iconst (v := 1) (px_at td_Mo_readStep 63 rfl) (by decide) ?_
    refine pw_iadd (px_at td_Mo_readStep 64 rfl) ?_
    obtain ⟨σ11, hk11, h⟩ := px_b1_e h
    refine pw_cV0 (0, 0, 0) [.inl 2, .inl (r10 + 1)] [] (px_at td_Mo_readStep 65 rfl) lV_Mo_169 rfl rfl rfl (Nat.le_of_ble_eq_true rfl) (by decide) (k_Mo_reads hk11) ?_
    obtain rfl := Option.some.inj h
    exact pw_vret (px_at td_Mo_readStep 66 rfl) rfl (Nat.le_refl 0) (Nat.le_refl 0) hR
  · refine pw_if_eq 72 (px_at td_Mo_readStep 39 rfl) (by decide) (fun hn => absurd hn hc12) (fun _ => ?_)
    obtain rfl := Option.some.inj h
    exact pw_vret (px_at td_Mo_readStep 40 rfl) rfl (Nat.le_refl 0) (Nat.le_refl 0) hR
def Mo_readStep_n41 (σ : pxS) (v1 : Int32) (v2 : Int32) (v3 : Int32) : Option (pxS) :=
  (if v1 = 4 then Mo_readStep_n51 σ v1 v2 v3 else (if v1 = 5 then Mo_readStep_n51 σ v1 v2 v3 else (if (σ (0, 0, 0) 22) = 0 then px_gd v2 48 (px_l (px_up σ (1, 13, 0) v2.toNatClampNeg (v1 - 2)) fun σ14 =>
  px_gd v2 48 (px_l (px_up σ14 (1, 14, 0) v2.toNatClampNeg v3) fun σ16 =>
  px_gd v2 48 (px_l (px_up σ16 (1, 15, 0) v2.toNatClampNeg 0) fun σ18 =>
  px_b1 (F_Mo_reading σ18 2) fun r19 =>
  px_b1 (F_Mo_reads σ18 2 (r19 + 1)) fun σ20 =>
  some σ20))) else some σ)))
set_option maxRecDepth 100000 in
theorem Mo_readStep_n41_l {l : Launch} {ids : List pxI} {Rt : Option pxV → List pxI → pxG → pxS → Prop} {σ : pxS} {v1 : Int32} {v2 : Int32} {v3 : Int32} {res : pxS} (h : Mo_readStep_n41 σ v1 v2 v3 = some res) (hR : Rt none ids mG res) : pw l (px_R 10) y_Mo_readStep c_Mo_readStep 5 none 41 [(0, .inr (some (0, 0, 0))), (1, .inl v1), (2, .inl v2), (3, .inl v3)] [] ids mG σ 0 0 Rt := by
  unfold Mo_readStep_n41 at h
  refine pw_iload_n 1 (px_at td_Mo_readStep 24 rfl) rfl rfl ?_
  refine pw_iconst (v := 4) (px_at td_Mo_readStep 25 rfl) (by decide) ?_
  rcases px_ite h with ⟨hc23, h⟩ | ⟨hc23, h⟩
  · refine pw_icmp_eq 51 (px_at td_Mo_readStep 26 rfl) (by decide) (fun _ => ?_) (fun hn => absurd hc23 hn)
    exact Mo_readStep_n51_l h hR
  · refine pw_icmp_eq 51 (px_at td_Mo_readStep 26 rfl) (by decide) (fun hn => absurd hn hc23) (fun _ => ?_)
    refine pw_iload_n 1 (px_at td_Mo_readStep 27 rfl) rfl rfl ?_
    refine pw_iconst (v := 5) (px_at td_Mo_readStep 28 rfl) (by decide) ?_
    rcases px_ite h with ⟨hc22, h⟩ | ⟨hc22, h⟩
    · refine pw_icmp_ne 61 (px_at td_Mo_readStep 29 rfl) (by decide) (fun hn => absurd hc22 hn) (fun _ => ?_)
      exact Mo_readStep_n51_l h hR
    · refine pw_icmp_ne 61 (px_at td_Mo_readStep 29 rfl) (by decide) (fun _ => ?_) (fun hn => absurd hn hc22)
      refine pw_iconst (v := 0) (px_at td_Mo_readStep 35 rfl) (by decide) ?_
      refine pw_istore (L' := [(4, .inl 0), (0, .inr (some (0, 0, 0))), (1, .inl v1), (2, .inl v2), (3, .inl v3)]) (px_at td_Mo_readStep 36 rfl) (by decide) rfl ?_
      refine pw_aload_n 1 (px_at td_Mo_readStep 37 rfl) rfl rfl ?_
      refine pw_getf (v := .inl (σ (0, 0, 0) 22)) (px_at td_Mo_readStep 38 rfl) lf_Mo_149 rfl rfl rfl ?_
      rcases px_ite h with ⟨hc21, h⟩ | ⟨hc21, h⟩
      · refine pw_if_eq 72 (px_at td_Mo_readStep 39 rfl) (by decide) (fun _ => ?_) (fun hn => absurd hc21 hn)
        refine pw_aload_n 1 (px_at td_Mo_readStep 41 rfl) rfl rfl ?_
        refine pw_getf (v := .inr (some (1, 13, 0))) (px_at td_Mo_readStep 42 rfl) lf_Mo_44 rfl rfl rfl ?_
        refine pw_iload_n 3 (px_at td_Mo_readStep 43 rfl) rfl rfl ?_
        refine pw_iload_n 2 (px_at td_Mo_readStep 44 rfl) rfl rfl ?_
        refine pw_iconst (v := 2) (px_at td_Mo_readStep 45 rfl) (by decide) ?_
        refine pw_isub (px_at td_Mo_readStep 46 rfl) ?_
        obtain ⟨hi13, h⟩ := px_gd_e h
        obtain ⟨σ14, hσ14, h⟩ := px_l_e h
        refine pw_ias (px_at td_Mo_readStep 47 rfl) rfl hi13 rfl hσ14 ?_
        refine pw_aload_n 1 (px_at td_Mo_readStep 48 rfl) rfl rfl ?_
        refine pw_getf (v := .inr (some (1, 14, 0))) (px_at td_Mo_readStep 49 rfl) lf_Mo_47 rfl rfl rfl ?_
        refine pw_iload_n 3 (px_at td_Mo_readStep 50 rfl) rfl rfl ?_
        refine pw_iload_n 4 (px_at td_Mo_readStep 51 rfl) rfl rfl ?_
        obtain ⟨hi15, h⟩ := px_gd_e h
        obtain ⟨σ16, hσ16, h⟩ := px_l_e h
        refine pw_ias (px_at td_Mo_readStep 52 rfl) rfl hi15 rfl hσ16 ?_
        refine pw_aload_n 1 (px_at td_Mo_readStep 53 rfl) rfl rfl ?_
        refine pw_getf (v := .inr (some (1, 15, 0))) (px_at td_Mo_readStep 54 rfl) lf_Mo_50 rfl rfl rfl ?_
        refine pw_iload_n 3 (px_at td_Mo_readStep 55 rfl) rfl rfl ?_
        refine pw_iload 0 (px_at td_Mo_readStep 56 rfl) rfl ?_
        obtain ⟨hi17, h⟩ := px_gd_e h
        obtain ⟨σ18, hσ18, h⟩ := px_l_e h
        refine pw_ias (px_at td_Mo_readStep 57 rfl) rfl hi17 rfl hσ18 ?_
        refine pw_aload_n 1 (px_at td_Mo_readStep 58 rfl) rfl rfl ?_
        refine pw_iconst (v := 2) (px_at td_Mo_readStep 59 rfl) (by decide) ?_
        refine pw_aload_n 1 (px_at td_Mo_readStep 60 rfl) rfl rfl ?_
        refine pw_iconst (v := 2) (px_at td_Mo_readStep 61 rfl) (by decide) ?_
        obtain ⟨r19, hk19, h⟩ := px_b1_e h
        refine pw_cV1 (0, 0, 0) [.inl 2] [.inl 2, .inr (some (0, 0, 0))] (px_at td_Mo_readStep 62 rfl) lV_Mo_173 rfl rfl rfl (Nat.le_of_ble_eq_true rfl) (by decide) (k_Mo_reading hk19) ?_
        refine pw_iconst (v := 1) (px_at td_Mo_readStep 63 rfl) (by decide) ?_
        refine pw_iadd (px_at td_Mo_readStep 64 rfl) ?_
        obtain ⟨σ20, hk20, h⟩ := px_b1_e h
        refine pw_cV0 (0, 0, 0) [.inl 2, .inl (r19 + 1)] [] (px_at td_Mo_readStep 65 rfl) lV_Mo_169 rfl rfl rfl (Nat.le_of_ble_eq_true rfl) (by decide) (k_Mo_reads hk20) ?_
        obtain rfl := Option.some.inj h
        exact pw_vret (px_at td_Mo_readStep 66 rfl) rfl (Nat.le_refl 0) (Nat.le_refl 0) hR
      · refine pw_if_eq 72 (px_at td_Mo_readStep 39 rfl) (by decide) (fun hn => absurd hn hc21) (fun _ => ?_)
        obtain rfl := Option.some.inj h
        exact pw_vret (px_at td_Mo_readStep 40 rfl) rfl (Nat.le_refl 0) (Nat.le_refl 0) hR
def Mo_readStep_n20 (σ : pxS) (v1 : Int32) (v2 : Int32) : Option (pxS) :=
  px_b1 (F_Mo_goOn σ ) fun σ2 =>
  (if v1 = 4 then Mo_readStep_n41 σ2 v1 v2 (-2) else px_b2 (F_Mo_railHere σ2 ) fun r24 σ24 =>
  px_b1 (F_Mo_goOn σ24 ) fun σ25 =>
  Mo_readStep_n41 σ25 v1 v2 r24)
set_option maxRecDepth 100000 in
theorem Mo_readStep_n20_l {l : Launch} {ids : List pxI} {Rt : Option pxV → List pxI → pxG → pxS → Prop} {σ : pxS} {v1 : Int32} {v2 : Int32} {res : pxS} (h : Mo_readStep_n20 σ v1 v2 = some res) (hR : Rt none ids mG res) : pw l (px_R 10) y_Mo_readStep c_Mo_readStep 5 none 20 [(0, .inr (some (0, 0, 0))), (1, .inl v1), (2, .inl v2)] [] ids mG σ 0 0 Rt := by
  unfold Mo_readStep_n20 at h
  refine pw_aload_n 0 (px_at td_Mo_readStep 12 rfl) rfl rfl ?_
  obtain ⟨σ2, hk2, h⟩ := px_b1_e h
  refine pw_cV0 (0, 0, 0) [] [] (px_at td_Mo_readStep 13 rfl) lV_Mo_162 rfl rfl rfl (Nat.le_of_ble_eq_true rfl) (by decide) (k_Mo_goOn hk2) ?_
  refine pw_bipush (v := (-2)) (px_at td_Mo_readStep 14 rfl) (by decide) ?_
  refine pw_istore_n (L' := [(3, .inl (-2)), (0, .inr (some (0, 0, 0))), (1, .inl v1), (2, .inl v2)]) (px_at td_Mo_readStep 15 rfl) rfl (by decide) rfl ?_
  refine pw_iload_n 2 (px_at td_Mo_readStep 16 rfl) rfl rfl ?_
  refine pw_iconst (v := 4) (px_at td_Mo_readStep 17 rfl) (by decide) ?_
  rcases px_ite h with ⟨hc26, h⟩ | ⟨hc26, h⟩
  · refine pw_icmp_eq 41 (px_at td_Mo_readStep 18 rfl) (by decide) (fun _ => ?_) (fun hn => absurd hc26 hn)
    refine pw_L [(0, .inr (some (0, 0, 0))), (1, .inl v1), (2, .inl v2), (3, .inl (-2))] [1, 2, 3, 0] rfl ?_
    exact Mo_readStep_n41_l h hR
  · refine pw_icmp_eq 41 (px_at td_Mo_readStep 18 rfl) (by decide) (fun hn => absurd hn hc26) (fun _ => ?_)
    refine pw_aload_n 1 (px_at td_Mo_readStep 19 rfl) rfl rfl ?_
    obtain ⟨r24, σ24, hk24, h⟩ := px_b2_e h
    refine pw_cV1 (0, 0, 0) [] [] (px_at td_Mo_readStep 20 rfl) lV_Mo_181 rfl rfl rfl (Nat.le_of_ble_eq_true rfl) (by decide) (k_Mo_railHere hk24) ?_
    refine pw_istore_n (L' := [(3, .inl r24), (0, .inr (some (0, 0, 0))), (1, .inl v1), (2, .inl v2)]) (px_at td_Mo_readStep 21 rfl) rfl (by decide) rfl ?_
    refine pw_aload_n 1 (px_at td_Mo_readStep 22 rfl) rfl rfl ?_
    obtain ⟨σ25, hk25, h⟩ := px_b1_e h
    refine pw_cV0 (0, 0, 0) [] [] (px_at td_Mo_readStep 23 rfl) lV_Mo_162 rfl rfl rfl (Nat.le_of_ble_eq_true rfl) (by decide) (k_Mo_goOn hk25) ?_
    refine pw_L [(0, .inr (some (0, 0, 0))), (1, .inl v1), (2, .inl v2), (3, .inl r24)] [1, 2, 3, 0] rfl ?_
    exact Mo_readStep_n41_l h hR
def F_Mo_readStep (σ : pxS) (v1 : Int32) : Option (pxS) :=
  px_b1 (F_Mo_reading σ 2) fun r1 =>
  (if (24 + r1) = 48 then px_b1 (F_Mo_wrong σ 2) fun σ27 =>
  Mo_readStep_n20 σ27 v1 (24 + r1) else Mo_readStep_n20 σ v1 (24 + r1))
set_option maxRecDepth 100000 in
theorem e_Mo_readStep {l : Launch} {ids : List pxI} {Rt : Option pxV → List pxI → pxG → pxS → Prop} {σ : pxS} {v1 : Int32} {res : pxS} (h : F_Mo_readStep σ v1 = some res) (hR : Rt none ids mG res) : pw l (px_R 10) y_Mo_readStep c_Mo_readStep 5 none 0 [(0, .inr (some (0, 0, 0))), (1, .inl v1)] [] ids mG σ 0 0 Rt := by
  unfold F_Mo_readStep at h
  refine pw_bipush (v := 24) (px_at td_Mo_readStep 0 rfl) (by decide) ?_
  refine pw_aload_n 0 (px_at td_Mo_readStep 1 rfl) rfl rfl ?_
  refine pw_iconst (v := 2) (px_at td_Mo_readStep 2 rfl) (by decide) ?_
  obtain ⟨r1, hk1, h⟩ := px_b1_e h
  refine pw_cV1 (0, 0, 0) [.inl 2] [.inl 24] (px_at td_Mo_readStep 3 rfl) lV_Mo_173 rfl rfl rfl (Nat.le_of_ble_eq_true rfl) (by decide) (k_Mo_reading hk1) ?_
  refine pw_iadd (px_at td_Mo_readStep 4 rfl) ?_
  refine pw_istore_n (L' := [(2, .inl (24 + r1)), (0, .inr (some (0, 0, 0))), (1, .inl v1)]) (px_at td_Mo_readStep 5 rfl) rfl (by decide) rfl ?_
  refine pw_iload_n 0 (px_at td_Mo_readStep 6 rfl) rfl rfl ?_
  refine pw_bipush (v := 48) (px_at td_Mo_readStep 7 rfl) (by decide) ?_
  rcases px_ite h with ⟨hc28, h⟩ | ⟨hc28, h⟩
  · refine pw_icmp_ne 20 (px_at td_Mo_readStep 8 rfl) (by decide) (fun hn => absurd hc28 hn) (fun _ => ?_)
    refine pw_aload_n 1 (px_at td_Mo_readStep 9 rfl) rfl rfl ?_
    refine pw_iconst (v := 2) (px_at td_Mo_readStep 10 rfl) (by decide) ?_
    obtain ⟨σ27, hk27, h⟩ := px_b1_e h
    refine pw_cV0 (0, 0, 0) [.inl 2] [] (px_at td_Mo_readStep 11 rfl) lV_Mo_158 rfl rfl rfl (Nat.le_of_ble_eq_true rfl) (by decide) (k_Mo_wrong hk27) ?_
    refine pw_L [(0, .inr (some (0, 0, 0))), (1, .inl v1), (2, .inl (24 + r1))] [1, 2, 0] rfl ?_
    exact Mo_readStep_n20_l h hR
  · refine pw_icmp_ne 20 (px_at td_Mo_readStep 8 rfl) (by decide) (fun _ => ?_) (fun hn => absurd hn hc28)
    refine pw_L [(0, .inr (some (0, 0, 0))), (1, .inl v1), (2, .inl (24 + r1))] [1, 2, 0] rfl ?_
    exact Mo_readStep_n20_l h hR
theorem k_Mo_readStep {l : Launch} {ids : List pxI} {σ : pxS} {v1 : Int32} {res : pxS} (h : F_Mo_readStep σ v1 = some res) : pm l y_Mo_readStep c_Mo_readStep 5 none (px_R 10) [.inr (some (0, 0, 0)), .inl v1] ids mG σ (px_r none ids mG res) :=
  pm_ofF (by decide +kernel) (Nat.le_of_ble_eq_true rfl) (e_Mo_readStep h ⟨rfl, rfl, rfl, rfl⟩)
/-! Mo_readRetry -/
def F_Mo_readRetry (σ : pxS)  : Option (pxS) :=
  px_b1 (F_Mo_readOnce σ 10 9 0 9) fun σ1 =>
  px_b2 (F_Mo_numeral σ1 1 99) fun r2 σ2 =>
  px_b1 (F_Mo_reads σ2 10 r2) fun σ3 =>
  some σ3
set_option maxRecDepth 100000 in
theorem e_Mo_readRetry {l : Launch} {ids : List pxI} {Rt : Option pxV → List pxI → pxG → pxS → Prop} {σ : pxS}  {res : pxS} (h : F_Mo_readRetry σ  = some res) (hR : Rt none ids mG res) : pw l (px_R 11) y_Mo_readRetry c_Mo_readRetry 1 none 0 [(0, .inr (some (0, 0, 0)))] [] ids mG σ 0 0 Rt := by
  unfold F_Mo_readRetry at h
  refine pw_aload_n 0 (px_at td_Mo_readRetry 0 rfl) rfl rfl ?_
  refine pw_bipush (v := 10) (px_at td_Mo_readRetry 1 rfl) (by decide) ?_
  refine pw_bipush (v := 9) (px_at td_Mo_readRetry 2 rfl) (by decide) ?_
  refine pw_iconst (v := 0) (px_at td_Mo_readRetry 3 rfl) (by decide) ?_
  refine pw_bipush (v := 9) (px_at td_Mo_readRetry 4 rfl) (by decide) ?_
  obtain ⟨σ1, hk1, h⟩ := px_b1_e h
  refine pw_cV0 (0, 0, 0) [.inl 10, .inl 9, .inl 0, .inl 9] [] (px_at td_Mo_readRetry 5 rfl) lV_Mo_185 rfl rfl rfl (Nat.le_of_ble_eq_true rfl) (by decide) (k_Mo_readOnce hk1) ?_
  refine pw_aload_n 0 (px_at td_Mo_readRetry 6 rfl) rfl rfl ?_
  refine pw_bipush (v := 10) (px_at td_Mo_readRetry 7 rfl) (by decide) ?_
  refine pw_aload_n 0 (px_at td_Mo_readRetry 8 rfl) rfl rfl ?_
  refine pw_iconst (v := 1) (px_at td_Mo_readRetry 9 rfl) (by decide) ?_
  refine pw_bipush (v := 99) (px_at td_Mo_readRetry 10 rfl) (by decide) ?_
  obtain ⟨r2, σ2, hk2, h⟩ := px_b2_e h
  refine pw_cV1 (0, 0, 0) [.inl 1, .inl 99] [.inl 10, .inr (some (0, 0, 0))] (px_at td_Mo_readRetry 11 rfl) lV_Mo_165 rfl rfl rfl (Nat.le_of_ble_eq_true rfl) (by decide) (k_Mo_numeral hk2) ?_
  obtain ⟨σ3, hk3, h⟩ := px_b1_e h
  refine pw_cV0 (0, 0, 0) [.inl 10, .inl r2] [] (px_at td_Mo_readRetry 12 rfl) lV_Mo_169 rfl rfl rfl (Nat.le_of_ble_eq_true rfl) (by decide) (k_Mo_reads hk3) ?_
  obtain rfl := Option.some.inj h
  exact pw_vret (px_at td_Mo_readRetry 13 rfl) rfl (Nat.le_refl 0) (Nat.le_refl 0) hR
theorem k_Mo_readRetry {l : Launch} {ids : List pxI} {σ : pxS}  {res : pxS} (h : F_Mo_readRetry σ  = some res) : pm l y_Mo_readRetry c_Mo_readRetry 1 none (px_R 11) [.inr (some (0, 0, 0))] ids mG σ (px_r none ids mG res) :=
  pm_ofF (by decide +kernel) (Nat.le_of_ble_eq_true rfl) (e_Mo_readRetry h ⟨rfl, rfl, rfl, rfl⟩)
/-! Mo_readLine -/
def Mo_readLine_n241 (σ : pxS)  : Option (pxS) :=
  px_b1 (F_Mo_goOn σ ) fun σ2 =>
  px_l (px_up σ2 (0, 0, 0) 16 ((σ2 (0, 0, 0) 16) + 1)) fun σ3 =>
  some σ3
set_option maxRecDepth 100000 in
theorem Mo_readLine_n241_l {l : Launch} {ids : List pxI} {Rt : Option pxV → List pxI → pxG → pxS → Prop} {σ : pxS}  {res : pxS} (h : Mo_readLine_n241 σ  = some res) (hR : Rt none ids mG res) : pw l (px_R 12) y_Mo_readLine c_Mo_readLine 1 none 241 [(0, .inr (some (0, 0, 0)))] [] ids mG σ 0 0 Rt := by
  unfold Mo_readLine_n241 at h
  refine pw_aload_n 0 (px_at td_Mo_readLine 115 rfl) rfl rfl ?_
  obtain ⟨σ2, hk2, h⟩ := px_b1_e h
  refine pw_cV0 (0, 0, 0) [] [] (px_at td_Mo_readLine 116 rfl) lV_Mo_162 rfl rfl rfl (Nat.le_of_ble_eq_true rfl) (by decide) (k_Mo_goOn hk2) ?_
  refine pw_aload_n 0 (px_at td_Mo_readLine 117 rfl) rfl rfl ?_
  refine pw_dup (px_at td_Mo_readLine 118 rfl) ?_
  refine pw_getf (v := .inl (σ2 (0, 0, 0) 16)) (px_at td_Mo_readLine 119 rfl) lf_Mo_201 rfl rfl rfl ?_
  refine pw_iconst (v := 1) (px_at td_Mo_readLine 120 rfl) (by decide) ?_
  refine pw_iadd (px_at td_Mo_readLine 121 rfl) ?_
  obtain ⟨σ3, hσ3, h⟩ := px_l_e h
  refine pw_puti (px_at td_Mo_readLine 122 rfl) lw_Mo_201 rfl rfl (pw_s hσ3 ?_)
  obtain rfl := Option.some.inj h
  exact pw_vret (px_at td_Mo_readLine 123 rfl) rfl (Nat.le_refl 0) (Nat.le_refl 0) hR
def Mo_readLine_n221 (σ : pxS)  : Option (pxS) :=
  (if (σ (0, 0, 0) 22) = 0 then (if (σ (0, 0, 0) 20) = 3 then Mo_readLine_n241 σ  else px_b1 (F_Mo_wrong σ 1) fun σ4 =>
  Mo_readLine_n241 σ4 ) else Mo_readLine_n241 σ )
set_option maxRecDepth 100000 in
theorem Mo_readLine_n221_l {l : Launch} {ids : List pxI} {Rt : Option pxV → List pxI → pxG → pxS → Prop} {σ : pxS}  {res : pxS} (h : Mo_readLine_n221 σ  = some res) (hR : Rt none ids mG res) : pw l (px_R 12) y_Mo_readLine c_Mo_readLine 1 none 221 [(0, .inr (some (0, 0, 0)))] [] ids mG σ 0 0 Rt := by
  unfold Mo_readLine_n221 at h
  refine pw_aload_n 0 (px_at td_Mo_readLine 105 rfl) rfl rfl ?_
  refine pw_getf (v := .inl (σ (0, 0, 0) 22)) (px_at td_Mo_readLine 106 rfl) lf_Mo_149 rfl rfl rfl ?_
  rcases px_ite h with ⟨hc6, h⟩ | ⟨hc6, h⟩
  · refine pw_if_ne 241 (px_at td_Mo_readLine 107 rfl) (by decide) (fun hn => absurd hc6 hn) (fun _ => ?_)
    refine pw_aload_n 0 (px_at td_Mo_readLine 108 rfl) rfl rfl ?_
    refine pw_getf (v := .inl (σ (0, 0, 0) 20)) (px_at td_Mo_readLine 109 rfl) lf_Mo_118 rfl rfl rfl ?_
    refine pw_iconst (v := 3) (px_at td_Mo_readLine 110 rfl) (by decide) ?_
    rcases px_ite h with ⟨hc5, h⟩ | ⟨hc5, h⟩
    · refine pw_icmp_eq 241 (px_at td_Mo_readLine 111 rfl) (by decide) (fun _ => ?_) (fun hn => absurd hc5 hn)
      exact Mo_readLine_n241_l h hR
    · refine pw_icmp_eq 241 (px_at td_Mo_readLine 111 rfl) (by decide) (fun hn => absurd hn hc5) (fun _ => ?_)
      refine pw_aload_n 0 (px_at td_Mo_readLine 112 rfl) rfl rfl ?_
      refine pw_iconst (v := 1) (px_at td_Mo_readLine 113 rfl) (by decide) ?_
      obtain ⟨σ4, hk4, h⟩ := px_b1_e h
      refine pw_cV0 (0, 0, 0) [.inl 1] [] (px_at td_Mo_readLine 114 rfl) lV_Mo_158 rfl rfl rfl (Nat.le_of_ble_eq_true rfl) (by decide) (k_Mo_wrong hk4) ?_
      exact Mo_readLine_n241_l h hR
  · refine pw_if_ne 241 (px_at td_Mo_readLine 107 rfl) (by decide) (fun _ => ?_) (fun hn => absurd hn hc6)
    exact Mo_readLine_n241_l h hR
def Mo_readLine_n16 (σ : pxS)  : Option (pxS) :=
  px_b1 (F_Mo_wrong σ 1) fun σ1 =>
  Mo_readLine_n221 σ1 
set_option maxRecDepth 100000 in
theorem Mo_readLine_n16_l {l : Launch} {ids : List pxI} {Rt : Option pxV → List pxI → pxG → pxS → Prop} {σ : pxS}  {res : pxS} (h : Mo_readLine_n16 σ  = some res) (hR : Rt none ids mG res) : pw l (px_R 12) y_Mo_readLine c_Mo_readLine 1 none 16 [(0, .inr (some (0, 0, 0)))] [] ids mG σ 0 0 Rt := by
  unfold Mo_readLine_n16 at h
  refine pw_aload_n 0 (px_at td_Mo_readLine 7 rfl) rfl rfl ?_
  refine pw_iconst (v := 1) (px_at td_Mo_readLine 8 rfl) (by decide) ?_
  obtain ⟨σ1, hk1, h⟩ := px_b1_e h
  refine pw_cV0 (0, 0, 0) [.inl 1] [] (px_at td_Mo_readLine 9 rfl) lV_Mo_158 rfl rfl rfl (Nat.le_of_ble_eq_true rfl) (by decide) (k_Mo_wrong hk1) ?_
  refine pw_goto 221 (px_at td_Mo_readLine 10 rfl) (by decide) ?_
  exact Mo_readLine_n221_l h hR
def Mo_readLine_n80 (σ : pxS)  : Option (pxS) :=
  (if (σ (0, 0, 0) 21) = 6 then px_b1 (F_Mo_readOnce σ 6 3 1 999) fun σ18 =>
  Mo_readLine_n221 σ18  else (if (σ (0, 0, 0) 21) = 7 then px_b1 (F_Mo_readOnce σ 7 4 1 9999) fun σ16 =>
  Mo_readLine_n221 σ16  else (if (σ (0, 0, 0) 21) = 8 then px_b1 (F_Mo_readOnce σ 8 5 1 100) fun σ14 =>
  Mo_readLine_n221 σ14  else (if (σ (0, 0, 0) 21) = 9 then px_b1 (F_Mo_readOnce σ 9 8 1 9) fun σ12 =>
  Mo_readLine_n221 σ12  else (if (σ (0, 0, 0) 21) = 10 then px_b1 (F_Mo_readRetry σ ) fun σ10 =>
  Mo_readLine_n221 σ10  else (if (σ (0, 0, 0) 21) = 11 then px_b1 (F_Mo_readOnce σ 11 6 1 999999) fun σ8 =>
  Mo_readLine_n221 σ8  else px_b1 (F_Mo_readOnce σ 12 7 0 99999) fun σ7 =>
  Mo_readLine_n221 σ7 ))))))
set_option maxRecDepth 100000 in
theorem Mo_readLine_n80_l {l : Launch} {ids : List pxI} {Rt : Option pxV → List pxI → pxG → pxS → Prop} {σ : pxS}  {res : pxS} (h : Mo_readLine_n80 σ  = some res) (hR : Rt none ids mG res) : pw l (px_R 12) y_Mo_readLine c_Mo_readLine 1 none 80 [(0, .inr (some (0, 0, 0)))] [] ids mG σ 0 0 Rt := by
  unfold Mo_readLine_n80 at h
  refine pw_aload_n 0 (px_at td_Mo_readLine 37 rfl) rfl rfl ?_
  refine pw_getf (v := .inl (σ (0, 0, 0) 21)) (px_at td_Mo_readLine 38 rfl) lf_Mo_128 rfl rfl rfl ?_
  refine pw_bipush (v := 6) (px_at td_Mo_readLine 39 rfl) (by decide) ?_
  rcases px_ite h with ⟨hc19, h⟩ | ⟨hc19, h⟩
  · refine pw_icmp_ne 103 (px_at td_Mo_readLine 40 rfl) (by decide) (fun hn => absurd hc19 hn) (fun _ => ?_)
    refine pw_aload_n 0 (px_at td_Mo_readLine 41 rfl) rfl rfl ?_
    refine pw_bipush (v := 6) (px_at td_Mo_readLine 42 rfl) (by decide) ?_
    refine pw_iconst (v := 3) (px_at td_Mo_readLine 43 rfl) (by decide) ?_
    refine pw_iconst (v := 1) (px_at td_Mo_readLine 44 rfl) (by decide) ?_
    refine pw_sipush (v := 999) (px_at td_Mo_readLine 45 rfl) (by decide) ?_
    obtain ⟨σ18, hk18, h⟩ := px_b1_e h
    refine pw_cV0 (0, 0, 0) [.inl 6, .inl 3, .inl 1, .inl 999] [] (px_at td_Mo_readLine 46 rfl) lV_Mo_185 rfl rfl rfl (Nat.le_of_ble_eq_true rfl) (by decide) (k_Mo_readOnce hk18) ?_
    refine pw_goto 221 (px_at td_Mo_readLine 47 rfl) (by decide) ?_
    exact Mo_readLine_n221_l h hR
  · refine pw_icmp_ne 103 (px_at td_Mo_readLine 40 rfl) (by decide) (fun _ => ?_) (fun hn => absurd hn hc19)
    refine pw_aload_n 0 (px_at td_Mo_readLine 48 rfl) rfl rfl ?_
    refine pw_getf (v := .inl (σ (0, 0, 0) 21)) (px_at td_Mo_readLine 49 rfl) lf_Mo_128 rfl rfl rfl ?_
    refine pw_bipush (v := 7) (px_at td_Mo_readLine 50 rfl) (by decide) ?_
    rcases px_ite h with ⟨hc17, h⟩ | ⟨hc17, h⟩
    · refine pw_icmp_ne 126 (px_at td_Mo_readLine 51 rfl) (by decide) (fun hn => absurd hc17 hn) (fun _ => ?_)
      refine pw_aload_n 0 (px_at td_Mo_readLine 52 rfl) rfl rfl ?_
      refine pw_bipush (v := 7) (px_at td_Mo_readLine 53 rfl) (by decide) ?_
      refine pw_iconst (v := 4) (px_at td_Mo_readLine 54 rfl) (by decide) ?_
      refine pw_iconst (v := 1) (px_at td_Mo_readLine 55 rfl) (by decide) ?_
      refine pw_sipush (v := 9999) (px_at td_Mo_readLine 56 rfl) (by decide) ?_
      obtain ⟨σ16, hk16, h⟩ := px_b1_e h
      refine pw_cV0 (0, 0, 0) [.inl 7, .inl 4, .inl 1, .inl 9999] [] (px_at td_Mo_readLine 57 rfl) lV_Mo_185 rfl rfl rfl (Nat.le_of_ble_eq_true rfl) (by decide) (k_Mo_readOnce hk16) ?_
      refine pw_goto 221 (px_at td_Mo_readLine 58 rfl) (by decide) ?_
      exact Mo_readLine_n221_l h hR
    · refine pw_icmp_ne 126 (px_at td_Mo_readLine 51 rfl) (by decide) (fun _ => ?_) (fun hn => absurd hn hc17)
      refine pw_aload_n 0 (px_at td_Mo_readLine 59 rfl) rfl rfl ?_
      refine pw_getf (v := .inl (σ (0, 0, 0) 21)) (px_at td_Mo_readLine 60 rfl) lf_Mo_128 rfl rfl rfl ?_
      refine pw_bipush (v := 8) (px_at td_Mo_readLine 61 rfl) (by decide) ?_
      rcases px_ite h with ⟨hc15, h⟩ | ⟨hc15, h⟩
      · refine pw_icmp_ne 148 (px_at td_Mo_readLine 62 rfl) (by decide) (fun hn => absurd hc15 hn) (fun _ => ?_)
        refine pw_aload_n 0 (px_at td_Mo_readLine 63 rfl) rfl rfl ?_
        refine pw_bipush (v := 8) (px_at td_Mo_readLine 64 rfl) (by decide) ?_
        refine pw_iconst (v := 5) (px_at td_Mo_readLine 65 rfl) (by decide) ?_
        refine pw_iconst (v := 1) (px_at td_Mo_readLine 66 rfl) (by decide) ?_
        refine pw_bipush (v := 100) (px_at td_Mo_readLine 67 rfl) (by decide) ?_
        obtain ⟨σ14, hk14, h⟩ := px_b1_e h
        refine pw_cV0 (0, 0, 0) [.inl 8, .inl 5, .inl 1, .inl 100] [] (px_at td_Mo_readLine 68 rfl) lV_Mo_185 rfl rfl rfl (Nat.le_of_ble_eq_true rfl) (by decide) (k_Mo_readOnce hk14) ?_
        refine pw_goto 221 (px_at td_Mo_readLine 69 rfl) (by decide) ?_
        exact Mo_readLine_n221_l h hR
      · refine pw_icmp_ne 148 (px_at td_Mo_readLine 62 rfl) (by decide) (fun _ => ?_) (fun hn => absurd hn hc15)
        refine pw_aload_n 0 (px_at td_Mo_readLine 70 rfl) rfl rfl ?_
        refine pw_getf (v := .inl (σ (0, 0, 0) 21)) (px_at td_Mo_readLine 71 rfl) lf_Mo_128 rfl rfl rfl ?_
        refine pw_bipush (v := 9) (px_at td_Mo_readLine 72 rfl) (by decide) ?_
        rcases px_ite h with ⟨hc13, h⟩ | ⟨hc13, h⟩
        · refine pw_icmp_ne 171 (px_at td_Mo_readLine 73 rfl) (by decide) (fun hn => absurd hc13 hn) (fun _ => ?_)
          refine pw_aload_n 0 (px_at td_Mo_readLine 74 rfl) rfl rfl ?_
          refine pw_bipush (v := 9) (px_at td_Mo_readLine 75 rfl) (by decide) ?_
          refine pw_bipush (v := 8) (px_at td_Mo_readLine 76 rfl) (by decide) ?_
          refine pw_iconst (v := 1) (px_at td_Mo_readLine 77 rfl) (by decide) ?_
          refine pw_bipush (v := 9) (px_at td_Mo_readLine 78 rfl) (by decide) ?_
          obtain ⟨σ12, hk12, h⟩ := px_b1_e h
          refine pw_cV0 (0, 0, 0) [.inl 9, .inl 8, .inl 1, .inl 9] [] (px_at td_Mo_readLine 79 rfl) lV_Mo_185 rfl rfl rfl (Nat.le_of_ble_eq_true rfl) (by decide) (k_Mo_readOnce hk12) ?_
          refine pw_goto 221 (px_at td_Mo_readLine 80 rfl) (by decide) ?_
          exact Mo_readLine_n221_l h hR
        · refine pw_icmp_ne 171 (px_at td_Mo_readLine 73 rfl) (by decide) (fun _ => ?_) (fun hn => absurd hn hc13)
          refine pw_aload_n 0 (px_at td_Mo_readLine 81 rfl) rfl rfl ?_
          refine pw_getf (v := .inl (σ (0, 0, 0) 21)) (px_at td_Mo_readLine 82 rfl) lf_Mo_128 rfl rfl rfl ?_
          refine pw_bipush (v := 10) (px_at td_Mo_readLine 83 rfl) (by decide) ?_
          rcases px_ite h with ⟨hc11, h⟩ | ⟨hc11, h⟩
          · refine pw_icmp_ne 187 (px_at td_Mo_readLine 84 rfl) (by decide) (fun hn => absurd hc11 hn) (fun _ => ?_)
            refine pw_aload_n 0 (px_at td_Mo_readLine 85 rfl) rfl rfl ?_
            obtain ⟨σ10, hk10, h⟩ := px_b1_e h
            refine pw_cV0 (0, 0, 0) [] [] (px_at td_Mo_readLine 86 rfl) lV_Mo_198 rfl rfl rfl (Nat.le_of_ble_eq_true rfl) (by decide) (k_Mo_readRetry hk10) ?_
            refine pw_goto 221 (px_at td_Mo_readLine 87 rfl) (by decide) ?_
            exact Mo_readLine_n221_l h hR
          · refine pw_icmp_ne 187 (px_at td_Mo_readLine 84 rfl) (by decide) (fun _ => ?_) (fun hn => absurd hn hc11)
            refine pw_aload_n 0 (px_at td_Mo_readLine 88 rfl) rfl rfl ?_
            refine pw_getf (v := .inl (σ (0, 0, 0) 21)) (px_at td_Mo_readLine 89 rfl) lf_Mo_128 rfl rfl rfl ?_
            refine pw_bipush (v := 11) (px_at td_Mo_readLine 90 rfl) (by decide) ?_
            rcases px_ite h with ⟨hc9, h⟩ | ⟨hc9, h⟩
            · refine pw_icmp_ne 210 (px_at td_Mo_readLine 91 rfl) (by decide) (fun hn => absurd hc9 hn) (fun _ => ?_)
              refine pw_aload_n 0 (px_at td_Mo_readLine 92 rfl) rfl rfl ?_
              refine pw_bipush (v := 11) (px_at td_Mo_readLine 93 rfl) (by decide) ?_
              refine pw_bipush (v := 6) (px_at td_Mo_readLine 94 rfl) (by decide) ?_
              refine pw_iconst (v := 1) (px_at td_Mo_readLine 95 rfl) (by decide) ?_
              refine pw_ldc (v := 999999) (px_at td_Mo_readLine 96 rfl) lc_Mo_137 ?_
              obtain ⟨σ8, hk8, h⟩ := px_b1_e h
              refine pw_cV0 (0, 0, 0) [.inl 11, .inl 6, .inl 1, .inl 999999] [] (px_at td_Mo_readLine 97 rfl) lV_Mo_185 rfl rfl rfl (Nat.le_of_ble_eq_true rfl) (by decide) (k_Mo_readOnce hk8) ?_
              refine pw_goto 221 (px_at td_Mo_readLine 98 rfl) (by decide) ?_
              exact Mo_readLine_n221_l h hR
            · refine pw_icmp_ne 210 (px_at td_Mo_readLine 91 rfl) (by decide) (fun _ => ?_) (fun hn => absurd hn hc9)
              refine pw_aload_n 0 (px_at td_Mo_readLine 99 rfl) rfl rfl ?_
              refine pw_bipush (v := 12) (px_at td_Mo_readLine 100 rfl) (by decide) ?_
              refine pw_bipush (v := 7) (px_at td_Mo_readLine 101 rfl) (by decide) ?_
              refine pw_iconst (v := 0) (px_at td_Mo_readLine 102 rfl) (by decide) ?_
              refine pw_ldc (v := 99999) (px_at td_Mo_readLine 103 rfl) lc_Mo_184 ?_
              obtain ⟨σ7, hk7, h⟩ := px_b1_e h
              refine pw_cV0 (0, 0, 0) [.inl 12, .inl 7, .inl 0, .inl 99999] [] (px_at td_Mo_readLine 104 rfl) lV_Mo_185 rfl rfl rfl (Nat.le_of_ble_eq_true rfl) (by decide) (k_Mo_readOnce hk7) ?_
              exact Mo_readLine_n221_l h hR
def F_Mo_readLine (σ : pxS)  : Option (pxS) :=
  (if (σ (0, 0, 0) 20) = 0 then (if (σ (0, 0, 0) 21) = 13 then Mo_readLine_n16 σ  else (if (σ (0, 0, 0) 21) = 0 then px_b1 (F_Mo_readRail σ ) fun σ25 =>
  Mo_readLine_n221 σ25  else (if (σ (0, 0, 0) 21) = 1 then px_b1 (F_Mo_readNeeds σ ) fun σ23 =>
  Mo_readLine_n221 σ23  else (if (σ (0, 0, 0) 21) < 2 then Mo_readLine_n80 σ  else (if 5 < (σ (0, 0, 0) 21) then Mo_readLine_n80 σ  else px_b1 (F_Mo_readStep σ (σ (0, 0, 0) 21)) fun σ20 =>
  Mo_readLine_n221 σ20 ))))) else Mo_readLine_n16 σ )
set_option maxRecDepth 100000 in
theorem e_Mo_readLine {l : Launch} {ids : List pxI} {Rt : Option pxV → List pxI → pxG → pxS → Prop} {σ : pxS}  {res : pxS} (h : F_Mo_readLine σ  = some res) (hR : Rt none ids mG res) : pw l (px_R 12) y_Mo_readLine c_Mo_readLine 1 none 0 [(0, .inr (some (0, 0, 0)))] [] ids mG σ 0 0 Rt := by
  unfold F_Mo_readLine at h
  refine pw_aload_n 0 (px_at td_Mo_readLine 0 rfl) rfl rfl ?_
  refine pw_getf (v := .inl (σ (0, 0, 0) 20)) (px_at td_Mo_readLine 1 rfl) lf_Mo_118 rfl rfl rfl ?_
  rcases px_ite h with ⟨hc28, h⟩ | ⟨hc28, h⟩
  · refine pw_if_ne 16 (px_at td_Mo_readLine 2 rfl) (by decide) (fun hn => absurd hc28 hn) (fun _ => ?_)
    refine pw_aload_n 0 (px_at td_Mo_readLine 3 rfl) rfl rfl ?_
    refine pw_getf (v := .inl (σ (0, 0, 0) 21)) (px_at td_Mo_readLine 4 rfl) lf_Mo_128 rfl rfl rfl ?_
    refine pw_bipush (v := 13) (px_at td_Mo_readLine 5 rfl) (by decide) ?_
    rcases px_ite h with ⟨hc27, h⟩ | ⟨hc27, h⟩
    · refine pw_icmp_ne 24 (px_at td_Mo_readLine 6 rfl) (by decide) (fun hn => absurd hc27 hn) (fun _ => ?_)
      exact Mo_readLine_n16_l h hR
    · refine pw_icmp_ne 24 (px_at td_Mo_readLine 6 rfl) (by decide) (fun _ => ?_) (fun hn => absurd hn hc27)
      refine pw_aload_n 0 (px_at td_Mo_readLine 11 rfl) rfl rfl ?_
      refine pw_getf (v := .inl (σ (0, 0, 0) 21)) (px_at td_Mo_readLine 12 rfl) lf_Mo_128 rfl rfl rfl ?_
      rcases px_ite h with ⟨hc26, h⟩ | ⟨hc26, h⟩
      · refine pw_if_ne 38 (px_at td_Mo_readLine 13 rfl) (by decide) (fun hn => absurd hc26 hn) (fun _ => ?_)
        refine pw_aload_n 0 (px_at td_Mo_readLine 14 rfl) rfl rfl ?_
        obtain ⟨σ25, hk25, h⟩ := px_b1_e h
        refine pw_cV0 (0, 0, 0) [] [] (px_at td_Mo_readLine 15 rfl) lV_Mo_189 rfl rfl rfl (Nat.le_of_ble_eq_true rfl) (by decide) (k_Mo_readRail hk25) ?_
        refine pw_goto 221 (px_at td_Mo_readLine 16 rfl) (by decide) ?_
        exact Mo_readLine_n221_l h hR
      · refine pw_if_ne 38 (px_at td_Mo_readLine 13 rfl) (by decide) (fun _ => ?_) (fun hn => absurd hn hc26)
        refine pw_aload_n 0 (px_at td_Mo_readLine 17 rfl) rfl rfl ?_
        refine pw_getf (v := .inl (σ (0, 0, 0) 21)) (px_at td_Mo_readLine 18 rfl) lf_Mo_128 rfl rfl rfl ?_
        refine pw_iconst (v := 1) (px_at td_Mo_readLine 19 rfl) (by decide) ?_
        rcases px_ite h with ⟨hc24, h⟩ | ⟨hc24, h⟩
        · refine pw_icmp_ne 53 (px_at td_Mo_readLine 20 rfl) (by decide) (fun hn => absurd hc24 hn) (fun _ => ?_)
          refine pw_aload_n 0 (px_at td_Mo_readLine 21 rfl) rfl rfl ?_
          obtain ⟨σ23, hk23, h⟩ := px_b1_e h
          refine pw_cV0 (0, 0, 0) [] [] (px_at td_Mo_readLine 22 rfl) lV_Mo_192 rfl rfl rfl (Nat.le_of_ble_eq_true rfl) (by decide) (k_Mo_readNeeds hk23) ?_
          refine pw_goto 221 (px_at td_Mo_readLine 23 rfl) (by decide) ?_
          exact Mo_readLine_n221_l h hR
        · refine pw_icmp_ne 53 (px_at td_Mo_readLine 20 rfl) (by decide) (fun _ => ?_) (fun hn => absurd hn hc24)
          refine pw_aload_n 0 (px_at td_Mo_readLine 24 rfl) rfl rfl ?_
          refine pw_getf (v := .inl (σ (0, 0, 0) 21)) (px_at td_Mo_readLine 25 rfl) lf_Mo_128 rfl rfl rfl ?_
          refine pw_iconst (v := 2) (px_at td_Mo_readLine 26 rfl) (by decide) ?_
          rcases px_ite h with ⟨hc22, h⟩ | ⟨hc22, h⟩
          · refine pw_icmp_lt 80 (px_at td_Mo_readLine 27 rfl) (by decide) (fun _ => ?_) (fun hn => absurd hc22 hn)
            exact Mo_readLine_n80_l h hR
          · refine pw_icmp_lt 80 (px_at td_Mo_readLine 27 rfl) (by decide) (fun hn => absurd hn hc22) (fun _ => ?_)
            refine pw_aload_n 0 (px_at td_Mo_readLine 28 rfl) rfl rfl ?_
            refine pw_getf (v := .inl (σ (0, 0, 0) 21)) (px_at td_Mo_readLine 29 rfl) lf_Mo_128 rfl rfl rfl ?_
            refine pw_iconst (v := 5) (px_at td_Mo_readLine 30 rfl) (by decide) ?_
            rcases px_ite h with ⟨hc21, h⟩ | ⟨hc21, h⟩
            · refine pw_icmp_gt 80 (px_at td_Mo_readLine 31 rfl) (by decide) (fun _ => ?_) (fun hn => absurd hc21 hn)
              exact Mo_readLine_n80_l h hR
            · refine pw_icmp_gt 80 (px_at td_Mo_readLine 31 rfl) (by decide) (fun hn => absurd hn hc21) (fun _ => ?_)
              refine pw_aload_n 0 (px_at td_Mo_readLine 32 rfl) rfl rfl ?_
              refine pw_aload_n 0 (px_at td_Mo_readLine 33 rfl) rfl rfl ?_
              refine pw_getf (v := .inl (σ (0, 0, 0) 21)) (px_at td_Mo_readLine 34 rfl) lf_Mo_128 rfl rfl rfl ?_
              obtain ⟨σ20, hk20, h⟩ := px_b1_e h
              refine pw_cV0 (0, 0, 0) [.inl (σ (0, 0, 0) 21)] [] (px_at td_Mo_readLine 35 rfl) lV_Mo_195 rfl rfl rfl (Nat.le_of_ble_eq_true rfl) (by decide) (k_Mo_readStep hk20) ?_
              refine pw_goto 221 (px_at td_Mo_readLine 36 rfl) (by decide) ?_
              exact Mo_readLine_n221_l h hR
  · refine pw_if_ne 16 (px_at td_Mo_readLine 2 rfl) (by decide) (fun _ => ?_) (fun hn => absurd hn hc28)
    exact Mo_readLine_n16_l h hR
theorem k_Mo_readLine {l : Launch} {ids : List pxI} {σ : pxS}  {res : pxS} (h : F_Mo_readLine σ  = some res) : pm l y_Mo_readLine c_Mo_readLine 1 none (px_R 12) [.inr (some (0, 0, 0))] ids mG σ (px_r none ids mG res) :=
  pm_ofF (by decide +kernel) (Nat.le_of_ble_eq_true rfl) (e_Mo_readLine h ⟨rfl, rfl, rfl, rfl⟩)
/-! Mo_freshText -/
def Mo_freshText_n2 (σ : pxS) (v1 : Int32) : Option ((Int32 × pxS) ⊕ (pxS)) :=
  (if 11 ≤ v1 then some (.inr σ) else px_b1 (F_Mo_reads σ v1 0) fun σ1 =>
  some (.inl ((v1 + 1), σ1)))
set_option maxRecDepth 100000 in
theorem Mo_freshText_n2_l {l : Launch} {ids : List pxI} {Rt : Option pxV → List pxI → pxG → pxS → Prop} {σ : pxS} {v1 : Int32} {o : (Int32 × pxS) ⊕ (pxS)} (h : Mo_freshText_n2 σ v1 = some o) (hC : ∀ s, o = .inl s → pw l (px_R 2) y_Mo_freshText c_Mo_freshText 2 none 2 [(0, .inr (some (0, 0, 0))), (1, .inl s.1)] [] ids mG s.2 0 0 Rt) (hX0 : ∀ e, o = .inr e → pw l (px_R 2) y_Mo_freshText c_Mo_freshText 2 none 20 [(0, .inr (some (0, 0, 0)))] [] ids mG e 0 0 Rt) : pw l (px_R 2) y_Mo_freshText c_Mo_freshText 2 none 2 [(0, .inr (some (0, 0, 0))), (1, .inl v1)] [] ids mG σ 0 0 Rt := by
  unfold Mo_freshText_n2 at h
  refine pw_iload_n 1 (px_at td_Mo_freshText 2 rfl) rfl rfl ?_
  refine pw_bipush (v := 11) (px_at td_Mo_freshText 3 rfl) (by decide) ?_
  rcases px_ite h with ⟨hc2, h⟩ | ⟨hc2, h⟩
  · refine pw_icmp_ge 20 (px_at td_Mo_freshText 4 rfl) (by decide) (fun _ => ?_) (fun hn => absurd hc2 hn)
    refine pw_L [(0, .inr (some (0, 0, 0)))] [0] rfl ?_
    exact hX0 σ (Option.some.inj h).symm
  · refine pw_icmp_ge 20 (px_at td_Mo_freshText 4 rfl) (by decide) (fun hn => absurd hn hc2) (fun _ => ?_)
    refine pw_aload_n 0 (px_at td_Mo_freshText 5 rfl) rfl rfl ?_
    refine pw_iload_n 1 (px_at td_Mo_freshText 6 rfl) rfl rfl ?_
    refine pw_iconst (v := 0) (px_at td_Mo_freshText 7 rfl) (by decide) ?_
    obtain ⟨σ1, hk1, h⟩ := px_b1_e h
    refine pw_cV0 (0, 0, 0) [.inl v1, .inl 0] [] (px_at td_Mo_freshText 8 rfl) lV_Mo_169 rfl rfl rfl (Nat.le_of_ble_eq_true rfl) (by decide) (k_Mo_reads hk1) ?_
    refine pw_iinc (q := 1) (v := (v1 + 1)) (L' := [(1, .inl (v1 + 1)), (0, .inr (some (0, 0, 0)))]) (px_at td_Mo_freshText 9 rfl) rfl rfl (by decide) rfl ?_
    refine pw_goto 2 (px_at td_Mo_freshText 10 rfl) (by decide) ?_
    refine pw_L [(0, .inr (some (0, 0, 0))), (1, .inl (v1 + 1))] [1, 0] rfl ?_
    exact hC ((v1 + 1), σ1) (Option.some.inj h).symm
def Mo_freshText_L2  : (Int32 × pxS) → Option ((Int32 × pxS) ⊕ (pxS)) := fun s => Mo_freshText_n2 s.2 s.1
set_option maxRecDepth 100000 in
theorem Mo_freshText_L2_l {l : Launch} {ids : List pxI} {Rt : Option pxV → List pxI → pxG → pxS → Prop}  {n : Nat} {s : Int32 × pxS} {e : pxS} (h : px_it (Mo_freshText_L2 ) n s = some e) (hX0 : pw l (px_R 2) y_Mo_freshText c_Mo_freshText 2 none 20 [(0, .inr (some (0, 0, 0)))] [] ids mG e 0 0 Rt) : pw l (px_R 2) y_Mo_freshText c_Mo_freshText 2 none 2 [(0, .inr (some (0, 0, 0))), (1, .inl s.1)] [] ids mG s.2 0 0 Rt := by
  refine px_it_rule (f := Mo_freshText_L2 ) (C := fun s => pw l (px_R 2) y_Mo_freshText c_Mo_freshText 2 none 2 [(0, .inr (some (0, 0, 0))), (1, .inl s.1)] [] ids mG s.2 0 0 Rt) (X := fun e => (pw l (px_R 2) y_Mo_freshText c_Mo_freshText 2 none 20 [(0, .inr (some (0, 0, 0)))] [] ids mG e 0 0 Rt)) ?_ ?_ n s e h hX0
  · intro s s1 hf hC
    exact Mo_freshText_n2_l hf (fun s2 hs => by cases hs; exact hC) (fun e he => by cases he)
  · intro s e hf hX
    exact Mo_freshText_n2_l hf (fun s2 hs => by cases hs) (fun e1 he => by cases he; exact hX)
def Mo_freshText_n67 (σ : pxS) (v1 : Int32) : Option ((Int32 × pxS) ⊕ (pxS)) :=
  (if 14 ≤ v1 then some (.inr σ) else px_gd v1 14 (px_l (px_up σ (1, 4, 0) v1.toNatClampNeg (vp_nar .boolean 0)) fun σ11 =>
  some (.inl ((v1 + 1), σ11))))
set_option maxRecDepth 100000 in
theorem Mo_freshText_n67_l {l : Launch} {ids : List pxI} {Rt : Option pxV → List pxI → pxG → pxS → Prop} {σ : pxS} {v1 : Int32} {o : (Int32 × pxS) ⊕ (pxS)} (h : Mo_freshText_n67 σ v1 = some o) (hC : ∀ s, o = .inl s → pw l (px_R 2) y_Mo_freshText c_Mo_freshText 2 none 67 [(0, .inr (some (0, 0, 0))), (1, .inl s.1)] [] ids mG s.2 0 0 Rt) (hX0 : ∀ e, o = .inr e → pw l (px_R 2) y_Mo_freshText c_Mo_freshText 2 none 86 [] [] ids mG e 0 0 Rt) : pw l (px_R 2) y_Mo_freshText c_Mo_freshText 2 none 67 [(0, .inr (some (0, 0, 0))), (1, .inl v1)] [] ids mG σ 0 0 Rt := by
  unfold Mo_freshText_n67 at h
  refine pw_iload_n 1 (px_at td_Mo_freshText 37 rfl) rfl rfl ?_
  refine pw_bipush (v := 14) (px_at td_Mo_freshText 38 rfl) (by decide) ?_
  rcases px_ite h with ⟨hc12, h⟩ | ⟨hc12, h⟩
  · refine pw_icmp_ge 86 (px_at td_Mo_freshText 39 rfl) (by decide) (fun _ => ?_) (fun hn => absurd hc12 hn)
    refine pw_L [] [] rfl ?_
    exact hX0 σ (Option.some.inj h).symm
  · refine pw_icmp_ge 86 (px_at td_Mo_freshText 39 rfl) (by decide) (fun hn => absurd hn hc12) (fun _ => ?_)
    refine pw_aload_n 0 (px_at td_Mo_freshText 40 rfl) rfl rfl ?_
    refine pw_getf (v := .inr (some (1, 4, 0))) (px_at td_Mo_freshText 41 rfl) lf_Mo_16 rfl rfl rfl ?_
    refine pw_iload_n 1 (px_at td_Mo_freshText 42 rfl) rfl rfl ?_
    refine pw_iconst (v := 0) (px_at td_Mo_freshText 43 rfl) (by decide) ?_
    obtain ⟨hi10, h⟩ := px_gd_e h
    obtain ⟨σ11, hσ11, h⟩ := px_l_e h
    refine pw_zas (px_at td_Mo_freshText 44 rfl) rfl hi10 rfl hσ11 ?_
    refine pw_iinc (q := 1) (v := (v1 + 1)) (L' := [(1, .inl (v1 + 1)), (0, .inr (some (0, 0, 0)))]) (px_at td_Mo_freshText 45 rfl) rfl rfl (by decide) rfl ?_
    refine pw_goto 67 (px_at td_Mo_freshText 46 rfl) (by decide) ?_
    refine pw_L [(0, .inr (some (0, 0, 0))), (1, .inl (v1 + 1))] [1, 0] rfl ?_
    exact hC ((v1 + 1), σ11) (Option.some.inj h).symm
def Mo_freshText_L67  : (Int32 × pxS) → Option ((Int32 × pxS) ⊕ (pxS)) := fun s => Mo_freshText_n67 s.2 s.1
set_option maxRecDepth 100000 in
theorem Mo_freshText_L67_l {l : Launch} {ids : List pxI} {Rt : Option pxV → List pxI → pxG → pxS → Prop}  {n : Nat} {s : Int32 × pxS} {e : pxS} (h : px_it (Mo_freshText_L67 ) n s = some e) (hX0 : pw l (px_R 2) y_Mo_freshText c_Mo_freshText 2 none 86 [] [] ids mG e 0 0 Rt) : pw l (px_R 2) y_Mo_freshText c_Mo_freshText 2 none 67 [(0, .inr (some (0, 0, 0))), (1, .inl s.1)] [] ids mG s.2 0 0 Rt := by
  refine px_it_rule (f := Mo_freshText_L67 ) (C := fun s => pw l (px_R 2) y_Mo_freshText c_Mo_freshText 2 none 67 [(0, .inr (some (0, 0, 0))), (1, .inl s.1)] [] ids mG s.2 0 0 Rt) (X := fun e => (pw l (px_R 2) y_Mo_freshText c_Mo_freshText 2 none 86 [] [] ids mG e 0 0 Rt)) ?_ ?_ n s e h hX0
  · intro s s1 hf hC
    exact Mo_freshText_n67_l hf (fun s2 hs => by cases hs; exact hC) (fun e he => by cases he)
  · intro s e hf hX
    exact Mo_freshText_n67_l hf (fun s2 hs => by cases hs) (fun e1 he => by cases he; exact hX)
def F_Mo_freshText (σ : pxS)  : Option (pxS) :=
  px_b1 (px_it (Mo_freshText_L2 ) px_N (0, σ)) fun e3 =>
  px_b1 (F_Mo_reads e3 3 50) fun σ4 =>
  px_b1 (F_Mo_reads σ4 4 500) fun σ5 =>
  px_b1 (F_Mo_reads σ5 5 90) fun σ6 =>
  px_b1 (F_Mo_reads σ6 6 99999) fun σ7 =>
  px_b1 (F_Mo_reads σ7 8 1) fun σ8 =>
  px_b1 (F_Mo_reads σ8 10 10) fun σ9 =>
  px_b1 (px_it (Mo_freshText_L67 ) px_N (0, σ9)) fun e13 =>
  some e13
set_option maxRecDepth 100000 in
theorem e_Mo_freshText {l : Launch} {ids : List pxI} {Rt : Option pxV → List pxI → pxG → pxS → Prop} {σ : pxS}  {res : pxS} (h : F_Mo_freshText σ  = some res) (hR : Rt none ids mG res) : pw l (px_R 2) y_Mo_freshText c_Mo_freshText 2 none 0 [(0, .inr (some (0, 0, 0)))] [] ids mG σ 0 0 Rt := by
  unfold F_Mo_freshText at h
  refine pw_iconst (v := 0) (px_at td_Mo_freshText 0 rfl) (by decide) ?_
  refine pw_istore_n (L' := [(1, .inl 0), (0, .inr (some (0, 0, 0)))]) (px_at td_Mo_freshText 1 rfl) rfl (by decide) rfl ?_
  obtain ⟨e3, he3, h⟩ := px_b1_e h
  refine pw_L [(0, .inr (some (0, 0, 0))), (1, .inl 0)] [1, 0] rfl ?_
  refine Mo_freshText_L2_l he3 ?_
  refine pw_aload_n 0 (px_at td_Mo_freshText 11 rfl) rfl rfl ?_
  refine pw_iconst (v := 3) (px_at td_Mo_freshText 12 rfl) (by decide) ?_
  refine pw_bipush (v := 50) (px_at td_Mo_freshText 13 rfl) (by decide) ?_
  obtain ⟨σ4, hk4, h⟩ := px_b1_e h
  refine pw_cV0 (0, 0, 0) [.inl 3, .inl 50] [] (px_at td_Mo_freshText 14 rfl) lV_Mo_169 rfl rfl rfl (Nat.le_of_ble_eq_true rfl) (by decide) (k_Mo_reads hk4) ?_
  refine pw_aload_n 0 (px_at td_Mo_freshText 15 rfl) rfl rfl ?_
  refine pw_iconst (v := 4) (px_at td_Mo_freshText 16 rfl) (by decide) ?_
  refine pw_sipush (v := 500) (px_at td_Mo_freshText 17 rfl) (by decide) ?_
  obtain ⟨σ5, hk5, h⟩ := px_b1_e h
  refine pw_cV0 (0, 0, 0) [.inl 4, .inl 500] [] (px_at td_Mo_freshText 18 rfl) lV_Mo_169 rfl rfl rfl (Nat.le_of_ble_eq_true rfl) (by decide) (k_Mo_reads hk5) ?_
  refine pw_aload_n 0 (px_at td_Mo_freshText 19 rfl) rfl rfl ?_
  refine pw_iconst (v := 5) (px_at td_Mo_freshText 20 rfl) (by decide) ?_
  refine pw_bipush (v := 90) (px_at td_Mo_freshText 21 rfl) (by decide) ?_
  obtain ⟨σ6, hk6, h⟩ := px_b1_e h
  refine pw_cV0 (0, 0, 0) [.inl 5, .inl 90] [] (px_at td_Mo_freshText 22 rfl) lV_Mo_169 rfl rfl rfl (Nat.le_of_ble_eq_true rfl) (by decide) (k_Mo_reads hk6) ?_
  refine pw_aload_n 0 (px_at td_Mo_freshText 23 rfl) rfl rfl ?_
  refine pw_bipush (v := 6) (px_at td_Mo_freshText 24 rfl) (by decide) ?_
  refine pw_ldc (v := 99999) (px_at td_Mo_freshText 25 rfl) lc_Mo_184 ?_
  obtain ⟨σ7, hk7, h⟩ := px_b1_e h
  refine pw_cV0 (0, 0, 0) [.inl 6, .inl 99999] [] (px_at td_Mo_freshText 26 rfl) lV_Mo_169 rfl rfl rfl (Nat.le_of_ble_eq_true rfl) (by decide) (k_Mo_reads hk7) ?_
  refine pw_aload_n 0 (px_at td_Mo_freshText 27 rfl) rfl rfl ?_
  refine pw_bipush (v := 8) (px_at td_Mo_freshText 28 rfl) (by decide) ?_
  refine pw_iconst (v := 1) (px_at td_Mo_freshText 29 rfl) (by decide) ?_
  obtain ⟨σ8, hk8, h⟩ := px_b1_e h
  refine pw_cV0 (0, 0, 0) [.inl 8, .inl 1] [] (px_at td_Mo_freshText 30 rfl) lV_Mo_169 rfl rfl rfl (Nat.le_of_ble_eq_true rfl) (by decide) (k_Mo_reads hk8) ?_
  refine pw_aload_n 0 (px_at td_Mo_freshText 31 rfl) rfl rfl ?_
  refine pw_bipush (v := 10) (px_at td_Mo_freshText 32 rfl) (by decide) ?_
  refine pw_bipush (v := 10) (px_at td_Mo_freshText 33 rfl) (by decide) ?_
  obtain ⟨σ9, hk9, h⟩ := px_b1_e h
  refine pw_cV0 (0, 0, 0) [.inl 10, .inl 10] [] (px_at td_Mo_freshText 34 rfl) lV_Mo_169 rfl rfl rfl (Nat.le_of_ble_eq_true rfl) (by decide) (k_Mo_reads hk9) ?_
  refine pw_iconst (v := 0) (px_at td_Mo_freshText 35 rfl) (by decide) ?_
  refine pw_istore_n (L' := [(1, .inl 0), (0, .inr (some (0, 0, 0)))]) (px_at td_Mo_freshText 36 rfl) rfl (by decide) rfl ?_
  obtain ⟨e13, he13, h⟩ := px_b1_e h
  refine pw_L [(0, .inr (some (0, 0, 0))), (1, .inl 0)] [1, 0] rfl ?_
  refine Mo_freshText_L67_l he13 ?_
  obtain rfl := Option.some.inj h
  exact pw_vret (px_at td_Mo_freshText 47 rfl) rfl (Nat.le_refl 0) (Nat.le_refl 0) hR
theorem k_Mo_freshText {l : Launch} {ids : List pxI} {σ : pxS}  {res : pxS} (h : F_Mo_freshText σ  = some res) : pm l y_Mo_freshText c_Mo_freshText 2 none (px_R 2) [.inr (some (0, 0, 0))] ids mG σ (px_r none ids mG res) :=
  pm_ofF (by decide +kernel) (Nat.le_of_ble_eq_true rfl) (e_Mo_freshText h ⟨rfl, rfl, rfl, rfl⟩)
