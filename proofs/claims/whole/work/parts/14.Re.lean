/-! Re_peekByte -/
def Re_peekByte_n46 (σ : pxS)  : Option (Int32) :=
  some ((-1))
set_option maxRecDepth 100000 in
theorem Re_peekByte_n46_l {l : Launch} {ids : List pxI} {Rt : Option pxV → List pxI → pxG → pxS → Prop} {σ : pxS}  {res : Int32} (h : Re_peekByte_n46 σ  = some res) (hR : Rt (some (.inl res)) ids cG σ) : pw l (px_R 1) y_Re_peekByte c_Re_peekByte 1 (some .int) 46 [] [] ids cG σ 0 0 Rt := by
  unfold Re_peekByte_n46 at h
  refine pw_iconst (v := (-1)) (px_at td_Re_peekByte 22 rfl) (by decide) ?_
  obtain rfl := Option.some.inj h
  exact pw_iret (px_at td_Re_peekByte 23 rfl) rfl (Nat.le_refl 0) (Nat.le_refl 0) hR
def F_Re_peekByte (σ : pxS)  : Option (Int32) :=
  (if (σ (6, 0, 0) 10) < 0 then Re_peekByte_n46 σ  else (if (σ (6, 0, 0) 9) ≤ (σ (6, 0, 0) 10) then Re_peekByte_n46 σ  else (if 700 ≤ (σ (6, 0, 0) 10) then Re_peekByte_n46 σ  else px_gd (σ (6, 0, 0) 10) 700 (some (((σ (5, 0, 0) (σ (6, 0, 0) 10).toNatClampNeg) &&& 255))))))
set_option maxRecDepth 100000 in
theorem e_Re_peekByte {l : Launch} {ids : List pxI} {Rt : Option pxV → List pxI → pxG → pxS → Prop} {σ : pxS}  {res : Int32} (h : F_Re_peekByte σ  = some res) (hR : Rt (some (.inl res)) ids cG σ) : pw l (px_R 1) y_Re_peekByte c_Re_peekByte 1 (some .int) 0 [(0, .inr (some (6, 0, 0)))] [] ids cG σ 0 0 Rt := by
  unfold F_Re_peekByte at h
  refine pw_aload_n 0 (px_at td_Re_peekByte 0 rfl) rfl rfl ?_
  refine pw_getf (v := .inl (σ (6, 0, 0) 10)) (px_at td_Re_peekByte 1 rfl) lf_Re_163 rfl rfl rfl ?_
  rcases px_ite h with ⟨hc4, h⟩ | ⟨hc4, h⟩
  · refine pw_if_lt 46 (px_at td_Re_peekByte 2 rfl) (by decide) (fun _ => ?_) (fun hn => absurd hc4 hn)
    refine pw_L [] [] rfl ?_
    exact Re_peekByte_n46_l h hR
  · refine pw_if_lt 46 (px_at td_Re_peekByte 2 rfl) (by decide) (fun hn => absurd hn hc4) (fun _ => ?_)
    refine pw_aload_n 0 (px_at td_Re_peekByte 3 rfl) rfl rfl ?_
    refine pw_getf (v := .inl (σ (6, 0, 0) 10)) (px_at td_Re_peekByte 4 rfl) lf_Re_163 rfl rfl rfl ?_
    refine pw_aload_n 0 (px_at td_Re_peekByte 5 rfl) rfl rfl ?_
    refine pw_getf (v := .inl (σ (6, 0, 0) 9)) (px_at td_Re_peekByte 6 rfl) lf_Re_157 rfl rfl rfl ?_
    rcases px_ite h with ⟨hc3, h⟩ | ⟨hc3, h⟩
    · refine pw_icmp_ge 46 (px_at td_Re_peekByte 7 rfl) (by decide) (fun _ => ?_) (fun hn => absurd hc3 hn)
      refine pw_L [] [] rfl ?_
      exact Re_peekByte_n46_l h hR
    · refine pw_icmp_ge 46 (px_at td_Re_peekByte 7 rfl) (by decide) (fun hn => absurd hn hc3) (fun _ => ?_)
      refine pw_aload_n 0 (px_at td_Re_peekByte 8 rfl) rfl rfl ?_
      refine pw_getf (v := .inl (σ (6, 0, 0) 10)) (px_at td_Re_peekByte 9 rfl) lf_Re_163 rfl rfl rfl ?_
      refine pw_aload_n 0 (px_at td_Re_peekByte 10 rfl) rfl rfl ?_
      refine pw_getf (v := .inr (some (5, 0, 0))) (px_at td_Re_peekByte 11 rfl) lf_Re_31 rfl rfl rfl ?_
      refine pw_alen (v := 700) (px_at td_Re_peekByte 12 rfl) rfl ⟨_, fun _ => rfl⟩ (by decide) ?_
      rcases px_ite h with ⟨hc2, h⟩ | ⟨hc2, h⟩
      · refine pw_icmp_ge 46 (px_at td_Re_peekByte 13 rfl) (by decide) (fun _ => ?_) (fun hn => absurd hc2 hn)
        refine pw_L [] [] rfl ?_
        exact Re_peekByte_n46_l h hR
      · refine pw_icmp_ge 46 (px_at td_Re_peekByte 13 rfl) (by decide) (fun hn => absurd hn hc2) (fun _ => ?_)
        refine pw_aload_n 0 (px_at td_Re_peekByte 14 rfl) rfl rfl ?_
        refine pw_getf (v := .inr (some (5, 0, 0))) (px_at td_Re_peekByte 15 rfl) lf_Re_31 rfl rfl rfl ?_
        refine pw_aload_n 0 (px_at td_Re_peekByte 16 rfl) rfl rfl ?_
        refine pw_getf (v := .inl (σ (6, 0, 0) 10)) (px_at td_Re_peekByte 17 rfl) lf_Re_163 rfl rfl rfl ?_
        obtain ⟨hi1, h⟩ := px_gd_e h
        refine pw_bal (px_at td_Re_peekByte 18 rfl) rfl hi1 rfl ?_
        refine pw_sipush (v := 255) (px_at td_Re_peekByte 19 rfl) (by decide) ?_
        refine pw_iand (px_at td_Re_peekByte 20 rfl) ?_
        refine pw_goto 47 (px_at td_Re_peekByte 21 rfl) (by decide) ?_
        obtain rfl := Option.some.inj h
        exact pw_iret (px_at td_Re_peekByte 23 rfl) rfl (Nat.le_refl 0) (Nat.le_refl 0) hR
theorem k_Re_peekByte {l : Launch} {ids : List pxI} {σ : pxS}  {res : Int32} (h : F_Re_peekByte σ  = some res) : pm l y_Re_peekByte c_Re_peekByte 1 (some .int) (px_R 1) [.inr (some (6, 0, 0))] ids cG σ (px_r (some (.inl res)) ids cG σ) :=
  pm_ofF (by decide +kernel) (Nat.le_of_ble_eq_true rfl) (e_Re_peekByte h ⟨rfl, rfl, rfl, rfl⟩)
/-! Re_skipBlanks -/
def Re_skipBlanks_n26 (σ : pxS) (v2 : Int32) : Option ((Int32 × Int32 × pxS) ⊕ (pxS)) :=
  px_l (px_up σ (6, 0, 0) 10 ((σ (6, 0, 0) 10) + 1)) fun σ2 =>
  px_b1 (F_Re_peekByte σ2 ) fun r3 =>
  some (.inl (r3, (v2 + 1), σ2))
set_option maxRecDepth 100000 in
theorem Re_skipBlanks_n26_l {l : Launch} {ids : List pxI} {Rt : Option pxV → List pxI → pxG → pxS → Prop} {σ : pxS} {v2 : Int32} {o : (Int32 × Int32 × pxS) ⊕ (pxS)} (h : Re_skipBlanks_n26 σ v2 = some o) (hC : ∀ s, o = .inl s → pw l (px_R 2) y_Re_skipBlanks c_Re_skipBlanks 3 none 7 [(0, .inr (some (6, 0, 0))), (1, .inl s.1), (2, .inl s.2.1)] [] ids cG s.2.2 0 0 Rt) (hX0 : ∀ e, o = .inr e → pw l (px_R 2) y_Re_skipBlanks c_Re_skipBlanks 3 none 47 [] [] ids cG e 0 0 Rt) : pw l (px_R 2) y_Re_skipBlanks c_Re_skipBlanks 3 none 26 [(0, .inr (some (6, 0, 0))), (2, .inl v2)] [] ids cG σ 0 0 Rt := by
  unfold Re_skipBlanks_n26 at h
  refine pw_aload_n 0 (px_at td_Re_skipBlanks 14 rfl) rfl rfl ?_
  refine pw_dup (px_at td_Re_skipBlanks 15 rfl) ?_
  refine pw_getf (v := .inl (σ (6, 0, 0) 10)) (px_at td_Re_skipBlanks 16 rfl) lf_Re_163 rfl rfl rfl ?_
  refine pw_iconst (v := 1) (px_at td_Re_skipBlanks 17 rfl) (by decide) ?_
  refine pw_iadd (px_at td_Re_skipBlanks 18 rfl) ?_
  obtain ⟨σ2, hσ2, h⟩ := px_l_e h
  refine pw_puti (px_at td_Re_skipBlanks 19 rfl) lw_Re_163 rfl rfl (pw_s hσ2 ?_)
  refine pw_aload_n 0 (px_at td_Re_skipBlanks 20 rfl) rfl rfl ?_
  obtain ⟨r3, hk3, h⟩ := px_b1_e h
  refine pw_cV1 (6, 0, 0) [] [] (px_at td_Re_skipBlanks 21 rfl) lV_Re_169 rfl rfl rfl (Nat.le_of_ble_eq_true rfl) (by decide) (k_Re_peekByte hk3) ?_
  refine pw_istore_n (L' := [(1, .inl r3), (0, .inr (some (6, 0, 0))), (2, .inl v2)]) (px_at td_Re_skipBlanks 22 rfl) rfl (by decide) rfl ?_
  refine pw_iinc (q := 2) (v := (v2 + 1)) (L' := [(2, .inl (v2 + 1)), (1, .inl r3), (0, .inr (some (6, 0, 0)))]) (px_at td_Re_skipBlanks 23 rfl) rfl rfl (by decide) rfl ?_
  refine pw_goto 7 (px_at td_Re_skipBlanks 24 rfl) (by decide) ?_
  refine pw_L [(0, .inr (some (6, 0, 0))), (1, .inl r3), (2, .inl (v2 + 1))] [2, 1, 0] rfl ?_
  exact hC (r3, (v2 + 1), σ2) (Option.some.inj h).symm
def Re_skipBlanks_n7 (σ : pxS) (v1 : Int32) (v2 : Int32) : Option ((Int32 × Int32 × pxS) ⊕ (pxS)) :=
  (if 700 ≤ v2 then some (.inr σ) else (if v1 = 10 then Re_skipBlanks_n26 σ v2 else (if v1 = 32 then Re_skipBlanks_n26 σ v2 else some (.inr σ))))
set_option maxRecDepth 100000 in
theorem Re_skipBlanks_n7_l {l : Launch} {ids : List pxI} {Rt : Option pxV → List pxI → pxG → pxS → Prop} {σ : pxS} {v1 : Int32} {v2 : Int32} {o : (Int32 × Int32 × pxS) ⊕ (pxS)} (h : Re_skipBlanks_n7 σ v1 v2 = some o) (hC : ∀ s, o = .inl s → pw l (px_R 2) y_Re_skipBlanks c_Re_skipBlanks 3 none 7 [(0, .inr (some (6, 0, 0))), (1, .inl s.1), (2, .inl s.2.1)] [] ids cG s.2.2 0 0 Rt) (hX0 : ∀ e, o = .inr e → pw l (px_R 2) y_Re_skipBlanks c_Re_skipBlanks 3 none 47 [] [] ids cG e 0 0 Rt) : pw l (px_R 2) y_Re_skipBlanks c_Re_skipBlanks 3 none 7 [(0, .inr (some (6, 0, 0))), (1, .inl v1), (2, .inl v2)] [] ids cG σ 0 0 Rt := by
  unfold Re_skipBlanks_n7 at h
  refine pw_iload_n 2 (px_at td_Re_skipBlanks 5 rfl) rfl rfl ?_
  refine pw_sipush (v := 700) (px_at td_Re_skipBlanks 6 rfl) (by decide) ?_
  rcases px_ite h with ⟨hc6, h⟩ | ⟨hc6, h⟩
  · refine pw_icmp_ge 47 (px_at td_Re_skipBlanks 7 rfl) (by decide) (fun _ => ?_) (fun hn => absurd hc6 hn)
    refine pw_L [] [] rfl ?_
    exact hX0 σ (Option.some.inj h).symm
  · refine pw_icmp_ge 47 (px_at td_Re_skipBlanks 7 rfl) (by decide) (fun hn => absurd hn hc6) (fun _ => ?_)
    refine pw_iload_n 1 (px_at td_Re_skipBlanks 8 rfl) rfl rfl ?_
    refine pw_bipush (v := 10) (px_at td_Re_skipBlanks 9 rfl) (by decide) ?_
    rcases px_ite h with ⟨hc5, h⟩ | ⟨hc5, h⟩
    · refine pw_icmp_eq 26 (px_at td_Re_skipBlanks 10 rfl) (by decide) (fun _ => ?_) (fun hn => absurd hc5 hn)
      refine pw_L [(0, .inr (some (6, 0, 0))), (2, .inl v2)] [0, 2] rfl ?_
      exact Re_skipBlanks_n26_l h hC hX0
    · refine pw_icmp_eq 26 (px_at td_Re_skipBlanks 10 rfl) (by decide) (fun hn => absurd hn hc5) (fun _ => ?_)
      refine pw_iload_n 1 (px_at td_Re_skipBlanks 11 rfl) rfl rfl ?_
      refine pw_bipush (v := 32) (px_at td_Re_skipBlanks 12 rfl) (by decide) ?_
      rcases px_ite h with ⟨hc4, h⟩ | ⟨hc4, h⟩
      · refine pw_icmp_ne 47 (px_at td_Re_skipBlanks 13 rfl) (by decide) (fun hn => absurd hc4 hn) (fun _ => ?_)
        refine pw_L [(0, .inr (some (6, 0, 0))), (2, .inl v2)] [0, 2] rfl ?_
        exact Re_skipBlanks_n26_l h hC hX0
      · refine pw_icmp_ne 47 (px_at td_Re_skipBlanks 13 rfl) (by decide) (fun _ => ?_) (fun hn => absurd hn hc4)
        refine pw_L [] [] rfl ?_
        exact hX0 σ (Option.some.inj h).symm
def Re_skipBlanks_L7  : (Int32 × Int32 × pxS) → Option ((Int32 × Int32 × pxS) ⊕ (pxS)) := fun s => Re_skipBlanks_n7 s.2.2 s.1 s.2.1
set_option maxRecDepth 100000 in
theorem Re_skipBlanks_L7_l {l : Launch} {ids : List pxI} {Rt : Option pxV → List pxI → pxG → pxS → Prop}  {n : Nat} {s : Int32 × Int32 × pxS} {e : pxS} (h : px_it (Re_skipBlanks_L7 ) n s = some e) (hX0 : pw l (px_R 2) y_Re_skipBlanks c_Re_skipBlanks 3 none 47 [] [] ids cG e 0 0 Rt) : pw l (px_R 2) y_Re_skipBlanks c_Re_skipBlanks 3 none 7 [(0, .inr (some (6, 0, 0))), (1, .inl s.1), (2, .inl s.2.1)] [] ids cG s.2.2 0 0 Rt := by
  refine px_it_rule (f := Re_skipBlanks_L7 ) (C := fun s => pw l (px_R 2) y_Re_skipBlanks c_Re_skipBlanks 3 none 7 [(0, .inr (some (6, 0, 0))), (1, .inl s.1), (2, .inl s.2.1)] [] ids cG s.2.2 0 0 Rt) (X := fun e => (pw l (px_R 2) y_Re_skipBlanks c_Re_skipBlanks 3 none 47 [] [] ids cG e 0 0 Rt)) ?_ ?_ n s e h hX0
  · intro s s1 hf hC
    exact Re_skipBlanks_n7_l hf (fun s2 hs => by cases hs; exact hC) (fun e he => by cases he)
  · intro s e hf hX
    exact Re_skipBlanks_n7_l hf (fun s2 hs => by cases hs) (fun e1 he => by cases he; exact hX)
def F_Re_skipBlanks (σ : pxS)  : Option (pxS) :=
  px_b1 (F_Re_peekByte σ ) fun r1 =>
  px_b1 (px_it (Re_skipBlanks_L7 ) px_N (r1, 0, σ)) fun e7 =>
  some e7
set_option maxRecDepth 100000 in
theorem e_Re_skipBlanks {l : Launch} {ids : List pxI} {Rt : Option pxV → List pxI → pxG → pxS → Prop} {σ : pxS}  {res : pxS} (h : F_Re_skipBlanks σ  = some res) (hR : Rt none ids cG res) : pw l (px_R 2) y_Re_skipBlanks c_Re_skipBlanks 3 none 0 [(0, .inr (some (6, 0, 0)))] [] ids cG σ 0 0 Rt := by
  unfold F_Re_skipBlanks at h
  refine pw_aload_n 0 (px_at td_Re_skipBlanks 0 rfl) rfl rfl ?_
  obtain ⟨r1, hk1, h⟩ := px_b1_e h
  refine pw_cV1 (6, 0, 0) [] [] (px_at td_Re_skipBlanks 1 rfl) lV_Re_169 rfl rfl rfl (Nat.le_of_ble_eq_true rfl) (by decide) (k_Re_peekByte hk1) ?_
  refine pw_istore_n (L' := [(1, .inl r1), (0, .inr (some (6, 0, 0)))]) (px_at td_Re_skipBlanks 2 rfl) rfl (by decide) rfl ?_
  refine pw_iconst (v := 0) (px_at td_Re_skipBlanks 3 rfl) (by decide) ?_
  refine pw_istore_n (L' := [(2, .inl 0), (1, .inl r1), (0, .inr (some (6, 0, 0)))]) (px_at td_Re_skipBlanks 4 rfl) rfl (by decide) rfl ?_
  obtain ⟨e7, he7, h⟩ := px_b1_e h
  refine pw_L [(0, .inr (some (6, 0, 0))), (1, .inl r1), (2, .inl 0)] [2, 1, 0] rfl ?_
  refine Re_skipBlanks_L7_l he7 ?_
  obtain rfl := Option.some.inj h
  exact pw_vret (px_at td_Re_skipBlanks 25 rfl) rfl (Nat.le_refl 0) (Nat.le_refl 0) hR
theorem k_Re_skipBlanks {l : Launch} {ids : List pxI} {σ : pxS}  {res : pxS} (h : F_Re_skipBlanks σ  = some res) : pm l y_Re_skipBlanks c_Re_skipBlanks 3 none (px_R 2) [.inr (some (6, 0, 0))] ids cG σ (px_r none ids cG res) :=
  pm_ofF (by decide +kernel) (Nat.le_of_ble_eq_true rfl) (e_Re_skipBlanks h ⟨rfl, rfl, rfl, rfl⟩)
/-! Re_isLetter -/
def Re_isLetter_n16 (σ : pxS)  : Option (Int32) :=
  some (0)
set_option maxRecDepth 100000 in
theorem Re_isLetter_n16_l {l : Launch} {ids : List pxI} {G : pxG} {Rt : Option pxV → List pxI → pxG → pxS → Prop} {σ : pxS}  {res : Int32} (h : Re_isLetter_n16 σ  = some res) (hR : Rt (some (.inl res)) ids G σ) : pw l (px_R 1) y_Re_isLetter c_Re_isLetter 1 (some .boolean) 16 [] [] ids G σ 0 0 Rt := by
  unfold Re_isLetter_n16 at h
  refine pw_iconst (v := 0) (px_at td_Re_isLetter 8 rfl) (by decide) ?_
  obtain rfl := Option.some.inj h
  exact pw_zret (px_at td_Re_isLetter 9 rfl) rfl (by decide) (Nat.le_refl 0) (Nat.le_refl 0) hR
def F_Re_isLetter (σ : pxS) (v0 : Int32) : Option (Int32) :=
  (if v0 < 97 then Re_isLetter_n16 σ  else (if 122 < v0 then Re_isLetter_n16 σ  else some (1)))
set_option maxRecDepth 100000 in
theorem e_Re_isLetter {l : Launch} {ids : List pxI} {G : pxG} {Rt : Option pxV → List pxI → pxG → pxS → Prop} {σ : pxS} {v0 : Int32} {res : Int32} (h : F_Re_isLetter σ v0 = some res) (hR : Rt (some (.inl res)) ids G σ) : pw l (px_R 1) y_Re_isLetter c_Re_isLetter 1 (some .boolean) 0 [(0, .inl v0)] [] ids G σ 0 0 Rt := by
  unfold F_Re_isLetter at h
  refine pw_iload_n 0 (px_at td_Re_isLetter 0 rfl) rfl rfl ?_
  refine pw_bipush (v := 97) (px_at td_Re_isLetter 1 rfl) (by decide) ?_
  rcases px_ite h with ⟨hc2, h⟩ | ⟨hc2, h⟩
  · refine pw_icmp_lt 16 (px_at td_Re_isLetter 2 rfl) (by decide) (fun _ => ?_) (fun hn => absurd hc2 hn)
    refine pw_L [] [] rfl ?_
    exact Re_isLetter_n16_l h hR
  · refine pw_icmp_lt 16 (px_at td_Re_isLetter 2 rfl) (by decide) (fun hn => absurd hn hc2) (fun _ => ?_)
    refine pw_iload_n 0 (px_at td_Re_isLetter 3 rfl) rfl rfl ?_
    refine pw_bipush (v := 122) (px_at td_Re_isLetter 4 rfl) (by decide) ?_
    rcases px_ite h with ⟨hc1, h⟩ | ⟨hc1, h⟩
    · refine pw_icmp_gt 16 (px_at td_Re_isLetter 5 rfl) (by decide) (fun _ => ?_) (fun hn => absurd hc1 hn)
      refine pw_L [] [] rfl ?_
      exact Re_isLetter_n16_l h hR
    · refine pw_icmp_gt 16 (px_at td_Re_isLetter 5 rfl) (by decide) (fun hn => absurd hn hc1) (fun _ => ?_)
      refine pw_iconst (v := 1) (px_at td_Re_isLetter 6 rfl) (by decide) ?_
      refine pw_goto 17 (px_at td_Re_isLetter 7 rfl) (by decide) ?_
      obtain rfl := Option.some.inj h
      exact pw_zret (px_at td_Re_isLetter 9 rfl) rfl (by decide) (Nat.le_refl 0) (Nat.le_refl 0) hR
theorem k_Re_isLetter {l : Launch} {ids : List pxI} {G : pxG} {σ : pxS} {v0 : Int32} {res : Int32} (h : F_Re_isLetter σ v0 = some res) : pm l y_Re_isLetter c_Re_isLetter 1 (some .boolean) (px_R 1) [.inl v0] ids G σ (px_r (some (.inl res)) ids G σ) :=
  pm_ofF (by decide +kernel) (Nat.le_of_ble_eq_true rfl) (e_Re_isLetter h ⟨rfl, rfl, rfl, rfl⟩)
/-! Re_isDigit -/
def Re_isDigit_n16 (σ : pxS)  : Option (Int32) :=
  some (0)
set_option maxRecDepth 100000 in
theorem Re_isDigit_n16_l {l : Launch} {ids : List pxI} {Rt : Option pxV → List pxI → pxG → pxS → Prop} {σ : pxS}  {res : Int32} (h : Re_isDigit_n16 σ  = some res) (hR : Rt (some (.inl res)) ids cG σ) : pw l (px_R 1) y_Re_isDigit c_Re_isDigit 1 (some .boolean) 16 [] [] ids cG σ 0 0 Rt := by
  unfold Re_isDigit_n16 at h
  refine pw_iconst (v := 0) (px_at td_Re_isDigit 8 rfl) (by decide) ?_
  obtain rfl := Option.some.inj h
  exact pw_zret (px_at td_Re_isDigit 9 rfl) rfl (by decide) (Nat.le_refl 0) (Nat.le_refl 0) hR
def F_Re_isDigit (σ : pxS) (v0 : Int32) : Option (Int32) :=
  (if v0 < 48 then Re_isDigit_n16 σ  else (if 57 < v0 then Re_isDigit_n16 σ  else some (1)))
set_option maxRecDepth 100000 in
theorem e_Re_isDigit {l : Launch} {ids : List pxI} {Rt : Option pxV → List pxI → pxG → pxS → Prop} {σ : pxS} {v0 : Int32} {res : Int32} (h : F_Re_isDigit σ v0 = some res) (hR : Rt (some (.inl res)) ids cG σ) : pw l (px_R 1) y_Re_isDigit c_Re_isDigit 1 (some .boolean) 0 [(0, .inl v0)] [] ids cG σ 0 0 Rt := by
  unfold F_Re_isDigit at h
  refine pw_iload_n 0 (px_at td_Re_isDigit 0 rfl) rfl rfl ?_
  refine pw_bipush (v := 48) (px_at td_Re_isDigit 1 rfl) (by decide) ?_
  rcases px_ite h with ⟨hc2, h⟩ | ⟨hc2, h⟩
  · refine pw_icmp_lt 16 (px_at td_Re_isDigit 2 rfl) (by decide) (fun _ => ?_) (fun hn => absurd hc2 hn)
    refine pw_L [] [] rfl ?_
    exact Re_isDigit_n16_l h hR
  · refine pw_icmp_lt 16 (px_at td_Re_isDigit 2 rfl) (by decide) (fun hn => absurd hn hc2) (fun _ => ?_)
    refine pw_iload_n 0 (px_at td_Re_isDigit 3 rfl) rfl rfl ?_
    refine pw_bipush (v := 57) (px_at td_Re_isDigit 4 rfl) (by decide) ?_
    rcases px_ite h with ⟨hc1, h⟩ | ⟨hc1, h⟩
    · refine pw_icmp_gt 16 (px_at td_Re_isDigit 5 rfl) (by decide) (fun _ => ?_) (fun hn => absurd hc1 hn)
      refine pw_L [] [] rfl ?_
      exact Re_isDigit_n16_l h hR
    · refine pw_icmp_gt 16 (px_at td_Re_isDigit 5 rfl) (by decide) (fun hn => absurd hn hc1) (fun _ => ?_)
      refine pw_iconst (v := 1) (px_at td_Re_isDigit 6 rfl) (by decide) ?_
      refine pw_goto 17 (px_at td_Re_isDigit 7 rfl) (by decide) ?_
      obtain rfl := Option.some.inj h
      exact pw_zret (px_at td_Re_isDigit 9 rfl) rfl (by decide) (Nat.le_refl 0) (Nat.le_refl 0) hR
theorem k_Re_isDigit {l : Launch} {ids : List pxI} {σ : pxS} {v0 : Int32} {res : Int32} (h : F_Re_isDigit σ v0 = some res) : pm l y_Re_isDigit c_Re_isDigit 1 (some .boolean) (px_R 1) [.inl v0] ids cG σ (px_r (some (.inl res)) ids cG σ) :=
  pm_ofF (by decide +kernel) (Nat.le_of_ble_eq_true rfl) (e_Re_isDigit h ⟨rfl, rfl, rfl, rfl⟩)
/-! Re_cutNumber -/
def Re_cutNumber_n7 (σ : pxS) (v1 : Int32) (v2 : Int32) : Option ((Int32 × Int32 × pxS) ⊕ (pxS)) :=
  (if 700 ≤ v2 then some (.inr σ) else px_b1 (F_Re_isDigit σ v1) fun r2 =>
  (if r2 = 0 then some (.inr σ) else px_l (px_up σ (6, 0, 0) 12 (if (((σ (6, 0, 0) 12) * 10) + (v1 - 48)) < 1000000 then (((σ (6, 0, 0) 12) * 10) + (v1 - 48)) else 1000000)) fun σ3 =>
  px_l (px_up σ3 (6, 0, 0) 10 ((σ3 (6, 0, 0) 10) + 1)) fun σ4 =>
  px_b1 (F_Re_peekByte σ4 ) fun r5 =>
  some (.inl (r5, (v2 + 1), σ4))))
set_option maxRecDepth 100000 in
theorem Re_cutNumber_n7_l {l : Launch} {ids : List pxI} {Rt : Option pxV → List pxI → pxG → pxS → Prop} {σ : pxS} {v1 : Int32} {v2 : Int32} {o : (Int32 × Int32 × pxS) ⊕ (pxS)} (h : Re_cutNumber_n7 σ v1 v2 = some o) (hC : ∀ s, o = .inl s → pw l (px_R 2) y_Re_cutNumber c_Re_cutNumber 3 none 7 [(0, .inr (some (6, 0, 0))), (1, .inl s.1), (2, .inl s.2.1)] [] ids cG s.2.2 0 0 Rt) (hX0 : ∀ e, o = .inr e → pw l (px_R 2) y_Re_cutNumber c_Re_cutNumber 3 none 63 [(0, .inr (some (6, 0, 0)))] [] ids cG e 0 0 Rt) : pw l (px_R 2) y_Re_cutNumber c_Re_cutNumber 3 none 7 [(0, .inr (some (6, 0, 0))), (1, .inl v1), (2, .inl v2)] [] ids cG σ 0 0 Rt := by
  unfold Re_cutNumber_n7 at h
  refine pw_iload_n 2 (px_at td_Re_cutNumber 5 rfl) rfl rfl ?_
  refine pw_sipush (v := 700) (px_at td_Re_cutNumber 6 rfl) (by decide) ?_
  rcases px_ite h with ⟨hc7, h⟩ | ⟨hc7, h⟩
  · refine pw_icmp_ge 63 (px_at td_Re_cutNumber 7 rfl) (by decide) (fun _ => ?_) (fun hn => absurd hc7 hn)
    refine pw_L [(0, .inr (some (6, 0, 0)))] [0] rfl ?_
    exact hX0 σ (Option.some.inj h).symm
  · refine pw_icmp_ge 63 (px_at td_Re_cutNumber 7 rfl) (by decide) (fun hn => absurd hn hc7) (fun _ => ?_)
    refine pw_iload_n 1 (px_at td_Re_cutNumber 8 rfl) rfl rfl ?_
    obtain ⟨r2, hk2, h⟩ := px_b1_e h
    refine pw_cS1 [.inl v1] [] (px_at td_Re_cutNumber 9 rfl) lS_Re_182 rfl rfl (Nat.le_of_ble_eq_true rfl) (by decide) (k_Re_isDigit hk2) ?_
    rcases px_ite h with ⟨hc6, h⟩ | ⟨hc6, h⟩
    · refine pw_if_eq 63 (px_at td_Re_cutNumber 10 rfl) (by decide) (fun _ => ?_) (fun hn => absurd hc6 hn)
      refine pw_L [(0, .inr (some (6, 0, 0)))] [0] rfl ?_
      exact hX0 σ (Option.some.inj h).symm
    · refine pw_if_eq 63 (px_at td_Re_cutNumber 10 rfl) (by decide) (fun hn => absurd hn hc6) (fun _ => ?_)
      refine pw_aload_n 0 (px_at td_Re_cutNumber 11 rfl) rfl rfl ?_
      refine pw_ldc (v := 1000000) (px_at td_Re_cutNumber 12 rfl) lc_Re_194 ?_
      refine pw_aload_n 0 (px_at td_Re_cutNumber 13 rfl) rfl rfl ?_
      refine pw_getf (v := .inl (σ (6, 0, 0) 12)) (px_at td_Re_cutNumber 14 rfl) lf_Re_68 rfl rfl rfl ?_
      refine pw_bipush (v := 10) (px_at td_Re_cutNumber 15 rfl) (by decide) ?_
      refine pw_imul (px_at td_Re_cutNumber 16 rfl) ?_
      refine pw_iload_n 1 (px_at td_Re_cutNumber 17 rfl) rfl rfl ?_
      refine pw_bipush (v := 48) (px_at td_Re_cutNumber 18 rfl) (by decide) ?_
      refine pw_isub (px_at td_Re_cutNumber 19 rfl) ?_
      refine pw_iadd (px_at td_Re_cutNumber 20 rfl) ?_
      refine pw_mmin (px_at td_Re_cutNumber 21 rfl) lm_Re_195 ws_Math_min wi_java_lang_Math wc_Math_min (by decide) (Nat.le_of_ble_eq_true rfl) (Nat.le_refl 0) (Nat.le_refl 0) ?_
      obtain ⟨σ3, hσ3, h⟩ := px_l_e h
      refine pw_puti (px_at td_Re_cutNumber 22 rfl) lw_Re_68 rfl rfl (pw_s hσ3 ?_)
      refine pw_aload_n 0 (px_at td_Re_cutNumber 23 rfl) rfl rfl ?_
      refine pw_dup (px_at td_Re_cutNumber 24 rfl) ?_
      refine pw_getf (v := .inl (σ3 (6, 0, 0) 10)) (px_at td_Re_cutNumber 25 rfl) lf_Re_163 rfl rfl rfl ?_
      refine pw_iconst (v := 1) (px_at td_Re_cutNumber 26 rfl) (by decide) ?_
      refine pw_iadd (px_at td_Re_cutNumber 27 rfl) ?_
      obtain ⟨σ4, hσ4, h⟩ := px_l_e h
      refine pw_puti (px_at td_Re_cutNumber 28 rfl) lw_Re_163 rfl rfl (pw_s hσ4 ?_)
      refine pw_aload_n 0 (px_at td_Re_cutNumber 29 rfl) rfl rfl ?_
      obtain ⟨r5, hk5, h⟩ := px_b1_e h
      refine pw_cV1 (6, 0, 0) [] [] (px_at td_Re_cutNumber 30 rfl) lV_Re_169 rfl rfl rfl (Nat.le_of_ble_eq_true rfl) (by decide) (k_Re_peekByte hk5) ?_
      refine pw_istore_n (L' := [(1, .inl r5), (0, .inr (some (6, 0, 0))), (2, .inl v2)]) (px_at td_Re_cutNumber 31 rfl) rfl (by decide) rfl ?_
      refine pw_iinc (q := 2) (v := (v2 + 1)) (L' := [(2, .inl (v2 + 1)), (1, .inl r5), (0, .inr (some (6, 0, 0)))]) (px_at td_Re_cutNumber 32 rfl) rfl rfl (by decide) rfl ?_
      refine pw_goto 7 (px_at td_Re_cutNumber 33 rfl) (by decide) ?_
      refine pw_L [(0, .inr (some (6, 0, 0))), (1, .inl r5), (2, .inl (v2 + 1))] [2, 1, 0] rfl ?_
      exact hC (r5, (v2 + 1), σ4) (Option.some.inj h).symm
def Re_cutNumber_L7  : (Int32 × Int32 × pxS) → Option ((Int32 × Int32 × pxS) ⊕ (pxS)) := fun s => Re_cutNumber_n7 s.2.2 s.1 s.2.1
set_option maxRecDepth 100000 in
theorem Re_cutNumber_L7_l {l : Launch} {ids : List pxI} {Rt : Option pxV → List pxI → pxG → pxS → Prop}  {n : Nat} {s : Int32 × Int32 × pxS} {e : pxS} (h : px_it (Re_cutNumber_L7 ) n s = some e) (hX0 : pw l (px_R 2) y_Re_cutNumber c_Re_cutNumber 3 none 63 [(0, .inr (some (6, 0, 0)))] [] ids cG e 0 0 Rt) : pw l (px_R 2) y_Re_cutNumber c_Re_cutNumber 3 none 7 [(0, .inr (some (6, 0, 0))), (1, .inl s.1), (2, .inl s.2.1)] [] ids cG s.2.2 0 0 Rt := by
  refine px_it_rule (f := Re_cutNumber_L7 ) (C := fun s => pw l (px_R 2) y_Re_cutNumber c_Re_cutNumber 3 none 7 [(0, .inr (some (6, 0, 0))), (1, .inl s.1), (2, .inl s.2.1)] [] ids cG s.2.2 0 0 Rt) (X := fun e => (pw l (px_R 2) y_Re_cutNumber c_Re_cutNumber 3 none 63 [(0, .inr (some (6, 0, 0)))] [] ids cG e 0 0 Rt)) ?_ ?_ n s e h hX0
  · intro s s1 hf hC
    exact Re_cutNumber_n7_l hf (fun s2 hs => by cases hs; exact hC) (fun e he => by cases he)
  · intro s e hf hX
    exact Re_cutNumber_n7_l hf (fun s2 hs => by cases hs) (fun e1 he => by cases he; exact hX)
def F_Re_cutNumber (σ : pxS)  : Option (pxS) :=
  px_b1 (F_Re_peekByte σ ) fun r1 =>
  px_b1 (px_it (Re_cutNumber_L7 ) px_N (r1, 0, σ)) fun e8 =>
  px_l (px_up e8 (6, 0, 0) 11 3) fun σ9 =>
  some σ9
set_option maxRecDepth 100000 in
theorem e_Re_cutNumber {l : Launch} {ids : List pxI} {Rt : Option pxV → List pxI → pxG → pxS → Prop} {σ : pxS}  {res : pxS} (h : F_Re_cutNumber σ  = some res) (hR : Rt none ids cG res) : pw l (px_R 2) y_Re_cutNumber c_Re_cutNumber 3 none 0 [(0, .inr (some (6, 0, 0)))] [] ids cG σ 0 0 Rt := by
  unfold F_Re_cutNumber at h
  refine pw_aload_n 0 (px_at td_Re_cutNumber 0 rfl) rfl rfl ?_
  obtain ⟨r1, hk1, h⟩ := px_b1_e h
  refine pw_cV1 (6, 0, 0) [] [] (px_at td_Re_cutNumber 1 rfl) lV_Re_169 rfl rfl rfl (Nat.le_of_ble_eq_true rfl) (by decide) (k_Re_peekByte hk1) ?_
  refine pw_istore_n (L' := [(1, .inl r1), (0, .inr (some (6, 0, 0)))]) (px_at td_Re_cutNumber 2 rfl) rfl (by decide) rfl ?_
  refine pw_iconst (v := 0) (px_at td_Re_cutNumber 3 rfl) (by decide) ?_
  refine pw_istore_n (L' := [(2, .inl 0), (1, .inl r1), (0, .inr (some (6, 0, 0)))]) (px_at td_Re_cutNumber 4 rfl) rfl (by decide) rfl ?_
  obtain ⟨e8, he8, h⟩ := px_b1_e h
  refine pw_L [(0, .inr (some (6, 0, 0))), (1, .inl r1), (2, .inl 0)] [2, 1, 0] rfl ?_
  refine Re_cutNumber_L7_l he8 ?_
  refine pw_aload_n 0 (px_at td_Re_cutNumber 34 rfl) rfl rfl ?_
  refine pw_iconst (v := 3) (px_at td_Re_cutNumber 35 rfl) (by decide) ?_
  obtain ⟨σ9, hσ9, h⟩ := px_l_e h
  refine pw_puti (px_at td_Re_cutNumber 36 rfl) lw_Re_62 rfl rfl (pw_s hσ9 ?_)
  obtain rfl := Option.some.inj h
  exact pw_vret (px_at td_Re_cutNumber 37 rfl) rfl (Nat.le_refl 0) (Nat.le_refl 0) hR
theorem k_Re_cutNumber {l : Launch} {ids : List pxI} {σ : pxS}  {res : pxS} (h : F_Re_cutNumber σ  = some res) : pm l y_Re_cutNumber c_Re_cutNumber 3 none (px_R 2) [.inr (some (6, 0, 0))] ids cG σ (px_r none ids cG res) :=
  pm_ofF (by decide +kernel) (Nat.le_of_ble_eq_true rfl) (e_Re_cutNumber h ⟨rfl, rfl, rfl, rfl⟩)
/-! Re_letterBits -/
def F_Re_letterBits (σ : pxS) (v0 : Int32) (v1 : Int32) : Option (Int32) :=
  some ((((v0 - 97) + 1) <<< ((25 - (5 * v1)) &&& 31)))
set_option maxRecDepth 100000 in
theorem e_Re_letterBits {l : Launch} {ids : List pxI} {G : pxG} {Rt : Option pxV → List pxI → pxG → pxS → Prop} {σ : pxS} {v0 : Int32} {v1 : Int32} {res : Int32} (h : F_Re_letterBits σ v0 v1 = some res) (hR : Rt (some (.inl res)) ids G σ) : pw l (px_R 1) y_Re_letterBits c_Re_letterBits 2 (some .int) 0 [(0, .inl v0), (1, .inl v1)] [] ids G σ 0 0 Rt := by
  unfold F_Re_letterBits at h
  refine pw_iload_n 0 (px_at td_Re_letterBits 0 rfl) rfl rfl ?_
  refine pw_bipush (v := 97) (px_at td_Re_letterBits 1 rfl) (by decide) ?_
  refine pw_isub (px_at td_Re_letterBits 2 rfl) ?_
  refine pw_iconst (v := 1) (px_at td_Re_letterBits 3 rfl) (by decide) ?_
  refine pw_iadd (px_at td_Re_letterBits 4 rfl) ?_
  refine pw_bipush (v := 25) (px_at td_Re_letterBits 5 rfl) (by decide) ?_
  refine pw_iconst (v := 5) (px_at td_Re_letterBits 6 rfl) (by decide) ?_
  refine pw_iload_n 1 (px_at td_Re_letterBits 7 rfl) rfl rfl ?_
  refine pw_imul (px_at td_Re_letterBits 8 rfl) ?_
  refine pw_isub (px_at td_Re_letterBits 9 rfl) ?_
  refine pw_ishl (px_at td_Re_letterBits 10 rfl) ?_
  obtain rfl := Option.some.inj h
  exact pw_iret (px_at td_Re_letterBits 11 rfl) rfl (Nat.le_refl 0) (Nat.le_refl 0) hR
theorem k_Re_letterBits {l : Launch} {ids : List pxI} {G : pxG} {σ : pxS} {v0 : Int32} {v1 : Int32} {res : Int32} (h : F_Re_letterBits σ v0 v1 = some res) : pm l y_Re_letterBits c_Re_letterBits 2 (some .int) (px_R 1) [.inl v0, .inl v1] ids G σ (px_r (some (.inl res)) ids G σ) :=
  pm_ofF (by decide +kernel) (Nat.le_of_ble_eq_true rfl) (e_Re_letterBits h ⟨rfl, rfl, rfl, rfl⟩)
/-! Re_wordOfLanguage -/
def Re_wordOfLanguage_n2 (σ : pxS) (v1 : Int32) (v2 : Int32) : Option ((Int32) ⊕ (Nat × Int32)) :=
  (if 14 ≤ v2 then some (.inr (1, 0)) else px_gd v2 14 ((if (σ (12, 0, 0) v2.toNatClampNeg) = v1 then some (.inr (0, v2)) else some (.inl (v2 + 1)))))
set_option maxRecDepth 100000 in
theorem Re_wordOfLanguage_n2_l {l : Launch} {ids : List pxI} {Rt : Option pxV → List pxI → pxG → pxS → Prop} {σ : pxS} {v1 : Int32} {v2 : Int32} {o : (Int32) ⊕ (Nat × Int32)} (h : Re_wordOfLanguage_n2 σ v1 v2 = some o) (hC : ∀ s, o = .inl s → pw l (px_R 1) y_Re_wordOfLanguage c_Re_wordOfLanguage 3 (some .int) 2 [(0, .inr (some (6, 0, 0))), (1, .inl v1), (2, .inl s)] [] ids cG σ 0 0 Rt) (hX0 : ∀ e, o = .inr e → e.1 = 0 → pw l (px_R 1) y_Re_wordOfLanguage c_Re_wordOfLanguage 3 (some .int) 18 [(2, .inl e.2)] [] ids cG σ 0 0 Rt) (hX1 : ∀ e, o = .inr e → e.1 = 1 → pw l (px_R 1) y_Re_wordOfLanguage c_Re_wordOfLanguage 3 (some .int) 26 [] [] ids cG σ 0 0 Rt) : pw l (px_R 1) y_Re_wordOfLanguage c_Re_wordOfLanguage 3 (some .int) 2 [(0, .inr (some (6, 0, 0))), (1, .inl v1), (2, .inl v2)] [] ids cG σ 0 0 Rt := by
  unfold Re_wordOfLanguage_n2 at h
  refine pw_iload_n 2 (px_at td_Re_wordOfLanguage 2 rfl) rfl rfl ?_
  refine pw_bipush (v := 14) (px_at td_Re_wordOfLanguage 3 rfl) (by decide) ?_
  rcases px_ite h with ⟨hc3, h⟩ | ⟨hc3, h⟩
  · refine pw_icmp_ge 26 (px_at td_Re_wordOfLanguage 4 rfl) (by decide) (fun _ => ?_) (fun hn => absurd hc3 hn)
    refine pw_L [] [] rfl ?_
    exact hX1 (1, 0) (Option.some.inj h).symm rfl
  · refine pw_icmp_ge 26 (px_at td_Re_wordOfLanguage 4 rfl) (by decide) (fun hn => absurd hn hc3) (fun _ => ?_)
    refine pw_aload_n 0 (px_at td_Re_wordOfLanguage 5 rfl) rfl rfl ?_
    refine pw_getf (v := .inr (some (12, 0, 0))) (px_at td_Re_wordOfLanguage 6 rfl) lf_Re_18 rfl rfl rfl ?_
    refine pw_iload_n 2 (px_at td_Re_wordOfLanguage 7 rfl) rfl rfl ?_
    obtain ⟨hi1, h⟩ := px_gd_e h
    refine pw_ial (px_at td_Re_wordOfLanguage 8 rfl) rfl hi1 rfl ?_
    refine pw_iload_n 1 (px_at td_Re_wordOfLanguage 9 rfl) rfl rfl ?_
    rcases px_ite h with ⟨hc2, h⟩ | ⟨hc2, h⟩
    · refine pw_icmp_ne 20 (px_at td_Re_wordOfLanguage 10 rfl) (by decide) (fun hn => absurd hc2 hn) (fun _ => ?_)
      refine pw_L [(2, .inl v2)] [2] rfl ?_
      exact hX0 (0, v2) (Option.some.inj h).symm rfl
    · refine pw_icmp_ne 20 (px_at td_Re_wordOfLanguage 10 rfl) (by decide) (fun _ => ?_) (fun hn => absurd hn hc2)
      refine pw_iinc (q := 2) (v := (v2 + 1)) (L' := [(2, .inl (v2 + 1)), (0, .inr (some (6, 0, 0))), (1, .inl v1)]) (px_at td_Re_wordOfLanguage 13 rfl) rfl rfl (by decide) rfl ?_
      refine pw_goto 2 (px_at td_Re_wordOfLanguage 14 rfl) (by decide) ?_
      refine pw_L [(0, .inr (some (6, 0, 0))), (1, .inl v1), (2, .inl (v2 + 1))] [1, 2, 0] rfl ?_
      exact hC (v2 + 1) (Option.some.inj h).symm
def Re_wordOfLanguage_L2 (σ : pxS) (v1 : Int32) : (Int32) → Option ((Int32) ⊕ (Nat × Int32)) := fun s => Re_wordOfLanguage_n2 σ v1 s
set_option maxRecDepth 100000 in
theorem Re_wordOfLanguage_L2_l {l : Launch} {ids : List pxI} {Rt : Option pxV → List pxI → pxG → pxS → Prop} {σ : pxS} {v1 : Int32} {n : Nat} {s : Int32} {e : Nat × Int32} (h : px_it (Re_wordOfLanguage_L2 σ v1) n s = some e) (hX0 : e.1 = 0 → pw l (px_R 1) y_Re_wordOfLanguage c_Re_wordOfLanguage 3 (some .int) 18 [(2, .inl e.2)] [] ids cG σ 0 0 Rt) (hX1 : e.1 = 1 → pw l (px_R 1) y_Re_wordOfLanguage c_Re_wordOfLanguage 3 (some .int) 26 [] [] ids cG σ 0 0 Rt) : pw l (px_R 1) y_Re_wordOfLanguage c_Re_wordOfLanguage 3 (some .int) 2 [(0, .inr (some (6, 0, 0))), (1, .inl v1), (2, .inl s)] [] ids cG σ 0 0 Rt := by
  refine px_it_rule (f := Re_wordOfLanguage_L2 σ v1) (C := fun s => pw l (px_R 1) y_Re_wordOfLanguage c_Re_wordOfLanguage 3 (some .int) 2 [(0, .inr (some (6, 0, 0))), (1, .inl v1), (2, .inl s)] [] ids cG σ 0 0 Rt) (X := fun e => (e.1 = 0 → pw l (px_R 1) y_Re_wordOfLanguage c_Re_wordOfLanguage 3 (some .int) 18 [(2, .inl e.2)] [] ids cG σ 0 0 Rt) ∧ (e.1 = 1 → pw l (px_R 1) y_Re_wordOfLanguage c_Re_wordOfLanguage 3 (some .int) 26 [] [] ids cG σ 0 0 Rt)) ?_ ?_ n s e h ⟨hX0, hX1⟩
  · intro s s1 hf hC
    exact Re_wordOfLanguage_n2_l hf (fun s2 hs => by cases hs; exact hC) (fun e he ht => by cases he) (fun e he ht => by cases he)
  · intro s e hf hX
    exact Re_wordOfLanguage_n2_l hf (fun s2 hs => by cases hs) (fun e1 he ht => by cases he; exact hX.1 ht) (fun e1 he ht => by cases he; exact hX.2 ht)
def F_Re_wordOfLanguage (σ : pxS) (v1 : Int32) : Option (Int32) :=
  px_b1 (px_it (Re_wordOfLanguage_L2 σ v1) px_N 0) fun e4 =>
  (if e4.1 = 0 then some (e4.2) else some ((-1)))
set_option maxRecDepth 100000 in
theorem e_Re_wordOfLanguage {l : Launch} {ids : List pxI} {Rt : Option pxV → List pxI → pxG → pxS → Prop} {σ : pxS} {v1 : Int32} {res : Int32} (h : F_Re_wordOfLanguage σ v1 = some res) (hR : Rt (some (.inl res)) ids cG σ) : pw l (px_R 1) y_Re_wordOfLanguage c_Re_wordOfLanguage 3 (some .int) 0 [(0, .inr (some (6, 0, 0))), (1, .inl v1)] [] ids cG σ 0 0 Rt := by
  unfold F_Re_wordOfLanguage at h
  refine pw_iconst (v := 0) (px_at td_Re_wordOfLanguage 0 rfl) (by decide) ?_
  refine pw_istore_n (L' := [(2, .inl 0), (0, .inr (some (6, 0, 0))), (1, .inl v1)]) (px_at td_Re_wordOfLanguage 1 rfl) rfl (by decide) rfl ?_
  obtain ⟨e4, he4, h⟩ := px_b1_e h
  refine pw_L [(0, .inr (some (6, 0, 0))), (1, .inl v1), (2, .inl 0)] [1, 2, 0] rfl ?_
  refine Re_wordOfLanguage_L2_l he4 (fun ht0 => ?_) (fun ht1 => ?_)
  · rw [if_pos ht0] at h
    refine pw_iload_n 0 (px_at td_Re_wordOfLanguage 11 rfl) rfl rfl ?_
    obtain rfl := Option.some.inj h
    exact pw_iret (px_at td_Re_wordOfLanguage 12 rfl) rfl (Nat.le_refl 0) (Nat.le_refl 0) hR
  · rw [if_neg (by rw [ht1]; decide)] at h
    refine pw_iconst (v := (-1)) (px_at td_Re_wordOfLanguage 15 rfl) (by decide) ?_
    obtain rfl := Option.some.inj h
    exact pw_iret (px_at td_Re_wordOfLanguage 16 rfl) rfl (Nat.le_refl 0) (Nat.le_refl 0) hR
theorem k_Re_wordOfLanguage {l : Launch} {ids : List pxI} {σ : pxS} {v1 : Int32} {res : Int32} (h : F_Re_wordOfLanguage σ v1 = some res) : pm l y_Re_wordOfLanguage c_Re_wordOfLanguage 3 (some .int) (px_R 1) [.inr (some (6, 0, 0)), .inl v1] ids cG σ (px_r (some (.inl res)) ids cG σ) :=
  pm_ofF (by decide +kernel) (Nat.le_of_ble_eq_true rfl) (e_Re_wordOfLanguage h ⟨rfl, rfl, rfl, rfl⟩)
/-! Re_cutWord -/
def Re_cutWord_n41 (σ : pxS) (v1 : Int32) (v2 : Int32) (v4 : Int32) : Option ((Int32 × Int32 × Int32 × Int32 × pxS) ⊕ (Int32 × Int32 × pxS)) :=
  px_l (px_up σ (6, 0, 0) 10 ((σ (6, 0, 0) 10) + 1)) fun σ3 =>
  px_b1 (F_Re_peekByte σ3 ) fun r4 =>
  some (.inl (v1, (v2 + 1), r4, (v4 + 1), σ3))
set_option maxRecDepth 100000 in
theorem Re_cutWord_n41_l {l : Launch} {ids : List pxI} {Rt : Option pxV → List pxI → pxG → pxS → Prop} {σ : pxS} {v1 : Int32} {v2 : Int32} {v4 : Int32} {o : (Int32 × Int32 × Int32 × Int32 × pxS) ⊕ (Int32 × Int32 × pxS)} (h : Re_cutWord_n41 σ v1 v2 v4 = some o) (hC : ∀ s, o = .inl s → pw l (px_R 2) y_Re_cutWord c_Re_cutWord 5 none 12 [(0, .inr (some (6, 0, 0))), (1, .inl s.1), (2, .inl s.2.1), (3, .inl s.2.2.1), (4, .inl s.2.2.2.1)] [] ids cG s.2.2.2.2 0 0 Rt) (hX0 : ∀ e, o = .inr e → pw l (px_R 2) y_Re_cutWord c_Re_cutWord 5 none 65 [(0, .inr (some (6, 0, 0))), (1, .inl e.1), (2, .inl e.2.1)] [] ids cG e.2.2 0 0 Rt) : pw l (px_R 2) y_Re_cutWord c_Re_cutWord 5 none 41 [(0, .inr (some (6, 0, 0))), (1, .inl v1), (2, .inl v2), (4, .inl v4)] [] ids cG σ 0 0 Rt := by
  unfold Re_cutWord_n41 at h
  refine pw_iinc (q := 2) (v := (v2 + 1)) (L' := [(2, .inl (v2 + 1)), (0, .inr (some (6, 0, 0))), (1, .inl v1), (4, .inl v4)]) (px_at td_Re_cutWord 24 rfl) rfl rfl (by decide) rfl ?_
  refine pw_aload_n 1 (px_at td_Re_cutWord 25 rfl) rfl rfl ?_
  refine pw_dup (px_at td_Re_cutWord 26 rfl) ?_
  refine pw_getf (v := .inl (σ (6, 0, 0) 10)) (px_at td_Re_cutWord 27 rfl) lf_Re_163 rfl rfl rfl ?_
  refine pw_iconst (v := 1) (px_at td_Re_cutWord 28 rfl) (by decide) ?_
  refine pw_iadd (px_at td_Re_cutWord 29 rfl) ?_
  obtain ⟨σ3, hσ3, h⟩ := px_l_e h
  refine pw_puti (px_at td_Re_cutWord 30 rfl) lw_Re_163 rfl rfl (pw_s hσ3 ?_)
  refine pw_aload_n 1 (px_at td_Re_cutWord 31 rfl) rfl rfl ?_
  obtain ⟨r4, hk4, h⟩ := px_b1_e h
  refine pw_cV1 (6, 0, 0) [] [] (px_at td_Re_cutWord 32 rfl) lV_Re_169 rfl rfl rfl (Nat.le_of_ble_eq_true rfl) (by decide) (k_Re_peekByte hk4) ?_
  refine pw_istore_n (L' := [(3, .inl r4), (2, .inl (v2 + 1)), (0, .inr (some (6, 0, 0))), (1, .inl v1), (4, .inl v4)]) (px_at td_Re_cutWord 33 rfl) rfl (by decide) rfl ?_
  refine pw_iinc (q := 4) (v := (v4 + 1)) (L' := [(4, .inl (v4 + 1)), (3, .inl r4), (2, .inl (v2 + 1)), (0, .inr (some (6, 0, 0))), (1, .inl v1)]) (px_at td_Re_cutWord 34 rfl) rfl rfl (by decide) rfl ?_
  refine pw_goto 12 (px_at td_Re_cutWord 35 rfl) (by decide) ?_
  refine pw_L [(0, .inr (some (6, 0, 0))), (1, .inl v1), (2, .inl (v2 + 1)), (3, .inl r4), (4, .inl (v4 + 1))] [3, 4, 2, 1, 0] rfl ?_
  exact hC (v1, (v2 + 1), r4, (v4 + 1), σ3) (Option.some.inj h).symm
def Re_cutWord_n12 (σ : pxS) (v1 : Int32) (v2 : Int32) (v3 : Int32) (v4 : Int32) : Option ((Int32 × Int32 × Int32 × Int32 × pxS) ⊕ (Int32 × Int32 × pxS)) :=
  (if 700 ≤ v4 then some (.inr (v1, v2, σ)) else px_b1 (F_Re_isLetter σ v3) fun r2 =>
  (if r2 = 0 then some (.inr (v1, v2, σ)) else (if 6 ≤ v2 then Re_cutWord_n41 σ v1 v2 v4 else px_b1 (F_Re_letterBits σ v3 v2) fun r5 =>
  Re_cutWord_n41 σ (v1 ||| r5) v2 v4)))
set_option maxRecDepth 100000 in
theorem Re_cutWord_n12_l {l : Launch} {ids : List pxI} {Rt : Option pxV → List pxI → pxG → pxS → Prop} {σ : pxS} {v1 : Int32} {v2 : Int32} {v3 : Int32} {v4 : Int32} {o : (Int32 × Int32 × Int32 × Int32 × pxS) ⊕ (Int32 × Int32 × pxS)} (h : Re_cutWord_n12 σ v1 v2 v3 v4 = some o) (hC : ∀ s, o = .inl s → pw l (px_R 2) y_Re_cutWord c_Re_cutWord 5 none 12 [(0, .inr (some (6, 0, 0))), (1, .inl s.1), (2, .inl s.2.1), (3, .inl s.2.2.1), (4, .inl s.2.2.2.1)] [] ids cG s.2.2.2.2 0 0 Rt) (hX0 : ∀ e, o = .inr e → pw l (px_R 2) y_Re_cutWord c_Re_cutWord 5 none 65 [(0, .inr (some (6, 0, 0))), (1, .inl e.1), (2, .inl e.2.1)] [] ids cG e.2.2 0 0 Rt) : pw l (px_R 2) y_Re_cutWord c_Re_cutWord 5 none 12 [(0, .inr (some (6, 0, 0))), (1, .inl v1), (2, .inl v2), (3, .inl v3), (4, .inl v4)] [] ids cG σ 0 0 Rt := by
  unfold Re_cutWord_n12 at h
  refine pw_iload 4 (px_at td_Re_cutWord 9 rfl) rfl ?_
  refine pw_sipush (v := 700) (px_at td_Re_cutWord 10 rfl) (by decide) ?_
  rcases px_ite h with ⟨hc8, h⟩ | ⟨hc8, h⟩
  · refine pw_icmp_ge 65 (px_at td_Re_cutWord 11 rfl) (by decide) (fun _ => ?_) (fun hn => absurd hc8 hn)
    refine pw_L [(0, .inr (some (6, 0, 0))), (1, .inl v1), (2, .inl v2)] [0, 1, 2] rfl ?_
    exact hX0 (v1, v2, σ) (Option.some.inj h).symm
  · refine pw_icmp_ge 65 (px_at td_Re_cutWord 11 rfl) (by decide) (fun hn => absurd hn hc8) (fun _ => ?_)
    refine pw_iload_n 3 (px_at td_Re_cutWord 12 rfl) rfl rfl ?_
    obtain ⟨r2, hk2, h⟩ := px_b1_e h
    refine pw_cS1 [.inl v3] [] (px_at td_Re_cutWord 13 rfl) lS_Re_175 rfl rfl (Nat.le_of_ble_eq_true rfl) (by decide) (k_Re_isLetter hk2) ?_
    rcases px_ite h with ⟨hc7, h⟩ | ⟨hc7, h⟩
    · refine pw_if_eq 65 (px_at td_Re_cutWord 14 rfl) (by decide) (fun _ => ?_) (fun hn => absurd hc7 hn)
      refine pw_L [(0, .inr (some (6, 0, 0))), (1, .inl v1), (2, .inl v2)] [0, 1, 2] rfl ?_
      exact hX0 (v1, v2, σ) (Option.some.inj h).symm
    · refine pw_if_eq 65 (px_at td_Re_cutWord 14 rfl) (by decide) (fun hn => absurd hn hc7) (fun _ => ?_)
      refine pw_iload_n 2 (px_at td_Re_cutWord 15 rfl) rfl rfl ?_
      refine pw_bipush (v := 6) (px_at td_Re_cutWord 16 rfl) (by decide) ?_
      rcases px_ite h with ⟨hc6, h⟩ | ⟨hc6, h⟩
      · refine pw_icmp_ge 41 (px_at td_Re_cutWord 17 rfl) (by decide) (fun _ => ?_) (fun hn => absurd hc6 hn)
        refine pw_L [(0, .inr (some (6, 0, 0))), (1, .inl v1), (2, .inl v2), (4, .inl v4)] [0, 1, 2, 4] rfl ?_
        exact Re_cutWord_n41_l h hC hX0
      · refine pw_icmp_ge 41 (px_at td_Re_cutWord 17 rfl) (by decide) (fun hn => absurd hn hc6) (fun _ => ?_)
        refine pw_iload_n 1 (px_at td_Re_cutWord 18 rfl) rfl rfl ?_
        refine pw_iload_n 3 (px_at td_Re_cutWord 19 rfl) rfl rfl ?_
        refine pw_iload_n 2 (px_at td_Re_cutWord 20 rfl) rfl rfl ?_
        obtain ⟨r5, hk5, h⟩ := px_b1_e h
        refine pw_cS1 [.inl v3, .inl v2] [.inl v1] (px_at td_Re_cutWord 21 rfl) lS_Re_188 rfl rfl (Nat.le_of_ble_eq_true rfl) (by decide) (k_Re_letterBits hk5) ?_
        refine pw_ior (px_at td_Re_cutWord 22 rfl) ?_
        refine pw_istore_n (L' := [(1, .inl (v1 ||| r5)), (0, .inr (some (6, 0, 0))), (2, .inl v2), (3, .inl v3), (4, .inl v4)]) (px_at td_Re_cutWord 23 rfl) rfl (by decide) rfl ?_
        refine pw_L [(0, .inr (some (6, 0, 0))), (1, .inl (v1 ||| r5)), (2, .inl v2), (4, .inl v4)] [1, 0, 2, 4] rfl ?_
        exact Re_cutWord_n41_l h hC hX0
def Re_cutWord_L12  : (Int32 × Int32 × Int32 × Int32 × pxS) → Option ((Int32 × Int32 × Int32 × Int32 × pxS) ⊕ (Int32 × Int32 × pxS)) := fun s => Re_cutWord_n12 s.2.2.2.2 s.1 s.2.1 s.2.2.1 s.2.2.2.1
set_option maxRecDepth 100000 in
theorem Re_cutWord_L12_l {l : Launch} {ids : List pxI} {Rt : Option pxV → List pxI → pxG → pxS → Prop}  {n : Nat} {s : Int32 × Int32 × Int32 × Int32 × pxS} {e : Int32 × Int32 × pxS} (h : px_it (Re_cutWord_L12 ) n s = some e) (hX0 : pw l (px_R 2) y_Re_cutWord c_Re_cutWord 5 none 65 [(0, .inr (some (6, 0, 0))), (1, .inl e.1), (2, .inl e.2.1)] [] ids cG e.2.2 0 0 Rt) : pw l (px_R 2) y_Re_cutWord c_Re_cutWord 5 none 12 [(0, .inr (some (6, 0, 0))), (1, .inl s.1), (2, .inl s.2.1), (3, .inl s.2.2.1), (4, .inl s.2.2.2.1)] [] ids cG s.2.2.2.2 0 0 Rt := by
  refine px_it_rule (f := Re_cutWord_L12 ) (C := fun s => pw l (px_R 2) y_Re_cutWord c_Re_cutWord 5 none 12 [(0, .inr (some (6, 0, 0))), (1, .inl s.1), (2, .inl s.2.1), (3, .inl s.2.2.1), (4, .inl s.2.2.2.1)] [] ids cG s.2.2.2.2 0 0 Rt) (X := fun e => (pw l (px_R 2) y_Re_cutWord c_Re_cutWord 5 none 65 [(0, .inr (some (6, 0, 0))), (1, .inl e.1), (2, .inl e.2.1)] [] ids cG e.2.2 0 0 Rt)) ?_ ?_ n s e h hX0
  · intro s s1 hf hC
    exact Re_cutWord_n12_l hf (fun s2 hs => by cases hs; exact hC) (fun e he => by cases he)
  · intro s e hf hX
    exact Re_cutWord_n12_l hf (fun s2 hs => by cases hs) (fun e1 he => by cases he; exact hX)
def F_Re_cutWord (σ : pxS)  : Option (pxS) :=
  px_b1 (F_Re_peekByte σ ) fun r1 =>
  px_b1 (px_it (Re_cutWord_L12 ) px_N (0, 0, r1, 0, σ)) fun e9 =>
  (if e9.2.1 ≤ 6 then px_b1 (F_Re_wordOfLanguage e9.2.2 e9.1) fun r10 =>
  (if r10 < 0 then px_l (px_up e9.2.2 (6, 0, 0) 11 1) fun σ11 =>
  (if r10 < 0 then px_l (px_up σ11 (6, 0, 0) 12 e9.1) fun σ12 =>
  some σ12 else px_l (px_up σ11 (6, 0, 0) 12 r10) fun σ13 =>
  some σ13) else px_l (px_up e9.2.2 (6, 0, 0) 11 2) fun σ15 =>
  (if r10 < 0 then px_l (px_up σ15 (6, 0, 0) 12 e9.1) fun σ16 =>
  some σ16 else px_l (px_up σ15 (6, 0, 0) 12 r10) fun σ17 =>
  some σ17)) else px_l (px_up e9.2.2 (6, 0, 0) 11 5) fun σ20 =>
  some σ20)
set_option maxRecDepth 100000 in
theorem e_Re_cutWord {l : Launch} {ids : List pxI} {Rt : Option pxV → List pxI → pxG → pxS → Prop} {σ : pxS}  {res : pxS} (h : F_Re_cutWord σ  = some res) (hR : Rt none ids cG res) : pw l (px_R 2) y_Re_cutWord c_Re_cutWord 5 none 0 [(0, .inr (some (6, 0, 0)))] [] ids cG σ 0 0 Rt := by
  unfold F_Re_cutWord at h
  refine pw_iconst (v := 0) (px_at td_Re_cutWord 0 rfl) (by decide) ?_
  refine pw_istore_n (L' := [(1, .inl 0), (0, .inr (some (6, 0, 0)))]) (px_at td_Re_cutWord 1 rfl) rfl (by decide) rfl ?_
  refine pw_iconst (v := 0) (px_at td_Re_cutWord 2 rfl) (by decide) ?_
  refine pw_istore_n (L' := [(2, .inl 0), (1, .inl 0), (0, .inr (some (6, 0, 0)))]) (px_at td_Re_cutWord 3 rfl) rfl (by decide) rfl ?_
  refine pw_aload_n 2 (px_at td_Re_cutWord 4 rfl) rfl rfl ?_
  obtain ⟨r1, hk1, h⟩ := px_b1_e h
  refine pw_cV1 (6, 0, 0) [] [] (px_at td_Re_cutWord 5 rfl) lV_Re_169 rfl rfl rfl (Nat.le_of_ble_eq_true rfl) (by decide) (k_Re_peekByte hk1) ?_
  refine pw_istore_n (L' := [(3, .inl r1), (2, .inl 0), (1, .inl 0), (0, .inr (some (6, 0, 0)))]) (px_at td_Re_cutWord 6 rfl) rfl (by decide) rfl ?_
  refine pw_iconst (v := 0) (px_at td_Re_cutWord 7 rfl) (by decide) ?_
  refine pw_istore (L' := [(4, .inl 0), (3, .inl r1), (2, .inl 0), (1, .inl 0), (0, .inr (some (6, 0, 0)))]) (px_at td_Re_cutWord 8 rfl) (by decide) rfl ?_
  obtain ⟨e9, he9, h⟩ := px_b1_e h
  refine pw_L [(0, .inr (some (6, 0, 0))), (1, .inl 0), (2, .inl 0), (3, .inl r1), (4, .inl 0)] [4, 3, 2, 1, 0] rfl ?_
  refine Re_cutWord_L12_l he9 ?_
  refine pw_iload_n 2 (px_at td_Re_cutWord 36 rfl) rfl rfl ?_
  refine pw_bipush (v := 6) (px_at td_Re_cutWord 37 rfl) (by decide) ?_
  rcases px_ite h with ⟨hc21, h⟩ | ⟨hc21, h⟩
  · refine pw_icmp_le 77 (px_at td_Re_cutWord 38 rfl) (by decide) (fun _ => ?_) (fun hn => absurd hc21 hn)
    refine pw_aload_n 0 (px_at td_Re_cutWord 43 rfl) rfl rfl ?_
    refine pw_iload_n 1 (px_at td_Re_cutWord 44 rfl) rfl rfl ?_
    obtain ⟨r10, hk10, h⟩ := px_b1_e h
    refine pw_cV1 (6, 0, 0) [.inl e9.1] [] (px_at td_Re_cutWord 45 rfl) lV_Re_191 rfl rfl rfl (Nat.le_of_ble_eq_true rfl) (by decide) (k_Re_wordOfLanguage hk10) ?_
    refine pw_istore (L' := [(4, .inl r10), (0, .inr (some (6, 0, 0))), (1, .inl e9.1), (2, .inl e9.2.1)]) (px_at td_Re_cutWord 46 rfl) (by decide) rfl ?_
    refine pw_aload_n 1 (px_at td_Re_cutWord 47 rfl) rfl rfl ?_
    refine pw_iload 0 (px_at td_Re_cutWord 48 rfl) rfl ?_
    rcases px_ite h with ⟨hc19, h⟩ | ⟨hc19, h⟩
    · refine pw_if_lt 94 (px_at td_Re_cutWord 49 rfl) (by decide) (fun _ => ?_) (fun hn => absurd hc19 hn)
      refine pw_iconst (v := 1) (px_at td_Re_cutWord 52 rfl) (by decide) ?_
      obtain ⟨σ11, hσ11, h⟩ := px_l_e h
      refine pw_puti (px_at td_Re_cutWord 53 rfl) lw_Re_62 rfl rfl (pw_s hσ11 ?_)
      refine pw_aload_n 1 (px_at td_Re_cutWord 54 rfl) rfl rfl ?_
      refine pw_iload 0 (px_at td_Re_cutWord 55 rfl) rfl ?_
      rcases px_ite h with ⟨hc14, h⟩ | ⟨hc14, h⟩
      · refine pw_if_lt 109 (px_at td_Re_cutWord 56 rfl) (by decide) (fun _ => ?_) (fun hn => absurd hc14 hn)
        refine pw_iload_n 2 (px_at td_Re_cutWord 59 rfl) rfl rfl ?_
        obtain ⟨σ12, hσ12, h⟩ := px_l_e h
        refine pw_puti (px_at td_Re_cutWord 60 rfl) lw_Re_68 rfl rfl (pw_s hσ12 ?_)
        obtain rfl := Option.some.inj h
        exact pw_vret (px_at td_Re_cutWord 61 rfl) rfl (Nat.le_refl 0) (Nat.le_refl 0) hR
      · refine pw_if_lt 109 (px_at td_Re_cutWord 56 rfl) (by decide) (fun hn => absurd hn hc14) (fun _ => ?_)
        refine pw_iload 0 (px_at td_Re_cutWord 57 rfl) rfl ?_
        refine pw_goto 110 (px_at td_Re_cutWord 58 rfl) (by decide) ?_
        obtain ⟨σ13, hσ13, h⟩ := px_l_e h
        refine pw_puti (px_at td_Re_cutWord 60 rfl) lw_Re_68 rfl rfl (pw_s hσ13 ?_)
        obtain rfl := Option.some.inj h
        exact pw_vret (px_at td_Re_cutWord 61 rfl) rfl (Nat.le_refl 0) (Nat.le_refl 0) hR
    · refine pw_if_lt 94 (px_at td_Re_cutWord 49 rfl) (by decide) (fun hn => absurd hn hc19) (fun _ => ?_)
      refine pw_iconst (v := 2) (px_at td_Re_cutWord 50 rfl) (by decide) ?_
      refine pw_goto 95 (px_at td_Re_cutWord 51 rfl) (by decide) ?_
      obtain ⟨σ15, hσ15, h⟩ := px_l_e h
      refine pw_puti (px_at td_Re_cutWord 53 rfl) lw_Re_62 rfl rfl (pw_s hσ15 ?_)
      refine pw_aload_n 1 (px_at td_Re_cutWord 54 rfl) rfl rfl ?_
      refine pw_iload 0 (px_at td_Re_cutWord 55 rfl) rfl ?_
      rcases px_ite h with ⟨hc18, h⟩ | ⟨hc18, h⟩
      · refine pw_if_lt 109 (px_at td_Re_cutWord 56 rfl) (by decide) (fun _ => ?_) (fun hn => absurd hc18 hn)
        refine pw_iload_n 2 (px_at td_Re_cutWord 59 rfl) rfl rfl ?_
        obtain ⟨σ16, hσ16, h⟩ := px_l_e h
        refine pw_puti (px_at td_Re_cutWord 60 rfl) lw_Re_68 rfl rfl (pw_s hσ16 ?_)
        obtain rfl := Option.some.inj h
        exact pw_vret (px_at td_Re_cutWord 61 rfl) rfl (Nat.le_refl 0) (Nat.le_refl 0) hR
      · refine pw_if_lt 109 (px_at td_Re_cutWord 56 rfl) (by decide) (fun hn => absurd hn hc18) (fun _ => ?_)
        refine pw_iload 0 (px_at td_Re_cutWord 57 rfl) rfl ?_
        refine pw_goto 110 (px_at td_Re_cutWord 58 rfl) (by decide) ?_
        obtain ⟨σ17, hσ17, h⟩ := px_l_e h
        refine pw_puti (px_at td_Re_cutWord 60 rfl) lw_Re_68 rfl rfl (pw_s hσ17 ?_)
        obtain rfl := Option.some.inj h
        exact pw_vret (px_at td_Re_cutWord 61 rfl) rfl (Nat.le_refl 0) (Nat.le_refl 0) hR
  · refine pw_icmp_le 77 (px_at td_Re_cutWord 38 rfl) (by decide) (fun hn => absurd hn hc21) (fun _ => ?_)
    refine pw_aload_n 0 (px_at td_Re_cutWord 39 rfl) rfl rfl ?_
    refine pw_iconst (v := 5) (px_at td_Re_cutWord 40 rfl) (by decide) ?_
    obtain ⟨σ20, hσ20, h⟩ := px_l_e h
    refine pw_puti (px_at td_Re_cutWord 41 rfl) lw_Re_62 rfl rfl (pw_s hσ20 ?_)
    obtain rfl := Option.some.inj h
    exact pw_vret (px_at td_Re_cutWord 42 rfl) rfl (Nat.le_refl 0) (Nat.le_refl 0) hR
theorem k_Re_cutWord {l : Launch} {ids : List pxI} {σ : pxS}  {res : pxS} (h : F_Re_cutWord σ  = some res) : pm l y_Re_cutWord c_Re_cutWord 5 none (px_R 2) [.inr (some (6, 0, 0))] ids cG σ (px_r none ids cG res) :=
  pm_ofF (by decide +kernel) (Nat.le_of_ble_eq_true rfl) (e_Re_cutWord h ⟨rfl, rfl, rfl, rfl⟩)
/-! Re_cutToken -/
def F_Re_cutToken (σ : pxS) (v1 : Int32) : Option (pxS) :=
  (if 0 ≤ v1 then px_b1 (F_Re_isLetter σ v1) fun r1 =>
  (if r1 = 0 then px_b1 (F_Re_isDigit σ v1) fun r2 =>
  (if r2 = 0 then (if v1 = 59 then px_l (px_up σ (6, 0, 0) 11 4) fun σ5 =>
  px_l (px_up σ5 (6, 0, 0) 10 ((σ5 (6, 0, 0) 10) + 1)) fun σ6 =>
  some σ6 else px_l (px_up σ (6, 0, 0) 11 5) fun σ3 =>
  px_l (px_up σ3 (6, 0, 0) 10 ((σ3 (6, 0, 0) 10) + 1)) fun σ4 =>
  some σ4) else px_b1 (F_Re_cutNumber σ ) fun σ8 =>
  some σ8) else px_b1 (F_Re_cutWord σ ) fun σ10 =>
  some σ10) else px_l (px_up σ (6, 0, 0) 11 0) fun σ12 =>
  some σ12)
set_option maxRecDepth 100000 in
theorem e_Re_cutToken {l : Launch} {ids : List pxI} {Rt : Option pxV → List pxI → pxG → pxS → Prop} {σ : pxS} {v1 : Int32} {res : pxS} (h : F_Re_cutToken σ v1 = some res) (hR : Rt none ids cG res) : pw l (px_R 3) y_Re_cutToken c_Re_cutToken 2 none 0 [(0, .inr (some (6, 0, 0))), (1, .inl v1)] [] ids cG σ 0 0 Rt := by
  unfold F_Re_cutToken at h
  refine pw_iload_n 1 (px_at td_Re_cutToken 0 rfl) rfl rfl ?_
  rcases px_ite h with ⟨hc13, h⟩ | ⟨hc13, h⟩
  · refine pw_if_ge 12 (px_at td_Re_cutToken 1 rfl) (by decide) (fun _ => ?_) (fun hn => absurd hc13 hn)
    refine pw_iload_n 1 (px_at td_Re_cutToken 6 rfl) rfl rfl ?_
    obtain ⟨r1, hk1, h⟩ := px_b1_e h
    refine pw_cS1 [.inl v1] [] (px_at td_Re_cutToken 7 rfl) lS_Re_175 rfl rfl (Nat.le_of_ble_eq_true rfl) (by decide) (k_Re_isLetter hk1) ?_
    rcases px_ite h with ⟨hc11, h⟩ | ⟨hc11, h⟩
    · refine pw_if_eq 26 (px_at td_Re_cutToken 8 rfl) (by decide) (fun _ => ?_) (fun hn => absurd hc11 hn)
      refine pw_iload_n 1 (px_at td_Re_cutToken 12 rfl) rfl rfl ?_
      obtain ⟨r2, hk2, h⟩ := px_b1_e h
      refine pw_cS1 [.inl v1] [] (px_at td_Re_cutToken 13 rfl) lS_Re_182 rfl rfl (Nat.le_of_ble_eq_true rfl) (by decide) (k_Re_isDigit hk2) ?_
      rcases px_ite h with ⟨hc9, h⟩ | ⟨hc9, h⟩
      · refine pw_if_eq 40 (px_at td_Re_cutToken 14 rfl) (by decide) (fun _ => ?_) (fun hn => absurd hc9 hn)
        refine pw_aload_n 0 (px_at td_Re_cutToken 18 rfl) rfl rfl ?_
        refine pw_iload_n 1 (px_at td_Re_cutToken 19 rfl) rfl rfl ?_
        refine pw_bipush (v := 59) (px_at td_Re_cutToken 20 rfl) (by decide) ?_
        rcases px_ite h with ⟨hc7, h⟩ | ⟨hc7, h⟩
        · refine pw_icmp_ne 51 (px_at td_Re_cutToken 21 rfl) (by decide) (fun hn => absurd hc7 hn) (fun _ => ?_)
          refine pw_iconst (v := 4) (px_at td_Re_cutToken 22 rfl) (by decide) ?_
          refine pw_goto 52 (px_at td_Re_cutToken 23 rfl) (by decide) ?_
          obtain ⟨σ5, hσ5, h⟩ := px_l_e h
          refine pw_puti (px_at td_Re_cutToken 25 rfl) lw_Re_62 rfl rfl (pw_s hσ5 ?_)
          refine pw_aload_n 0 (px_at td_Re_cutToken 26 rfl) rfl rfl ?_
          refine pw_dup (px_at td_Re_cutToken 27 rfl) ?_
          refine pw_getf (v := .inl (σ5 (6, 0, 0) 10)) (px_at td_Re_cutToken 28 rfl) lf_Re_163 rfl rfl rfl ?_
          refine pw_iconst (v := 1) (px_at td_Re_cutToken 29 rfl) (by decide) ?_
          refine pw_iadd (px_at td_Re_cutToken 30 rfl) ?_
          obtain ⟨σ6, hσ6, h⟩ := px_l_e h
          refine pw_puti (px_at td_Re_cutToken 31 rfl) lw_Re_163 rfl rfl (pw_s hσ6 ?_)
          obtain rfl := Option.some.inj h
          exact pw_vret (px_at td_Re_cutToken 32 rfl) rfl (Nat.le_refl 0) (Nat.le_refl 0) hR
        · refine pw_icmp_ne 51 (px_at td_Re_cutToken 21 rfl) (by decide) (fun _ => ?_) (fun hn => absurd hn hc7)
          refine pw_iconst (v := 5) (px_at td_Re_cutToken 24 rfl) (by decide) ?_
          obtain ⟨σ3, hσ3, h⟩ := px_l_e h
          refine pw_puti (px_at td_Re_cutToken 25 rfl) lw_Re_62 rfl rfl (pw_s hσ3 ?_)
          refine pw_aload_n 0 (px_at td_Re_cutToken 26 rfl) rfl rfl ?_
          refine pw_dup (px_at td_Re_cutToken 27 rfl) ?_
          refine pw_getf (v := .inl (σ3 (6, 0, 0) 10)) (px_at td_Re_cutToken 28 rfl) lf_Re_163 rfl rfl rfl ?_
          refine pw_iconst (v := 1) (px_at td_Re_cutToken 29 rfl) (by decide) ?_
          refine pw_iadd (px_at td_Re_cutToken 30 rfl) ?_
          obtain ⟨σ4, hσ4, h⟩ := px_l_e h
          refine pw_puti (px_at td_Re_cutToken 31 rfl) lw_Re_163 rfl rfl (pw_s hσ4 ?_)
          obtain rfl := Option.some.inj h
          exact pw_vret (px_at td_Re_cutToken 32 rfl) rfl (Nat.le_refl 0) (Nat.le_refl 0) hR
      · refine pw_if_eq 40 (px_at td_Re_cutToken 14 rfl) (by decide) (fun hn => absurd hn hc9) (fun _ => ?_)
        refine pw_aload_n 0 (px_at td_Re_cutToken 15 rfl) rfl rfl ?_
        obtain ⟨σ8, hk8, h⟩ := px_b1_e h
        refine pw_cV0 (6, 0, 0) [] [] (px_at td_Re_cutToken 16 rfl) lV_Re_185 rfl rfl rfl (Nat.le_of_ble_eq_true rfl) (by decide) (k_Re_cutNumber hk8) ?_
        refine pw_goto 65 (px_at td_Re_cutToken 17 rfl) (by decide) ?_
        obtain rfl := Option.some.inj h
        exact pw_vret (px_at td_Re_cutToken 32 rfl) rfl (Nat.le_refl 0) (Nat.le_refl 0) hR
    · refine pw_if_eq 26 (px_at td_Re_cutToken 8 rfl) (by decide) (fun hn => absurd hn hc11) (fun _ => ?_)
      refine pw_aload_n 0 (px_at td_Re_cutToken 9 rfl) rfl rfl ?_
      obtain ⟨σ10, hk10, h⟩ := px_b1_e h
      refine pw_cV0 (6, 0, 0) [] [] (px_at td_Re_cutToken 10 rfl) lV_Re_179 rfl rfl rfl (Nat.le_of_ble_eq_true rfl) (by decide) (k_Re_cutWord hk10) ?_
      refine pw_goto 65 (px_at td_Re_cutToken 11 rfl) (by decide) ?_
      obtain rfl := Option.some.inj h
      exact pw_vret (px_at td_Re_cutToken 32 rfl) rfl (Nat.le_refl 0) (Nat.le_refl 0) hR
  · refine pw_if_ge 12 (px_at td_Re_cutToken 1 rfl) (by decide) (fun hn => absurd hn hc13) (fun _ => ?_)
    refine pw_aload_n 0 (px_at td_Re_cutToken 2 rfl) rfl rfl ?_
    refine pw_iconst (v := 0) (px_at td_Re_cutToken 3 rfl) (by decide) ?_
    obtain ⟨σ12, hσ12, h⟩ := px_l_e h
    refine pw_puti (px_at td_Re_cutToken 4 rfl) lw_Re_62 rfl rfl (pw_s hσ12 ?_)
    refine pw_goto 65 (px_at td_Re_cutToken 5 rfl) (by decide) ?_
    obtain rfl := Option.some.inj h
    exact pw_vret (px_at td_Re_cutToken 32 rfl) rfl (Nat.le_refl 0) (Nat.le_refl 0) hR
theorem k_Re_cutToken {l : Launch} {ids : List pxI} {σ : pxS} {v1 : Int32} {res : pxS} (h : F_Re_cutToken σ v1 = some res) : pm l y_Re_cutToken c_Re_cutToken 2 none (px_R 3) [.inr (some (6, 0, 0)), .inl v1] ids cG σ (px_r none ids cG res) :=
  pm_ofF (by decide +kernel) (Nat.le_of_ble_eq_true rfl) (e_Re_cutToken h ⟨rfl, rfl, rfl, rfl⟩)
/-! Re_cutAll -/
def Re_cutAll_n17 (σ : pxS) (v2 : Int32) : Option ((Int32 × pxS) ⊕ (pxS)) :=
  (if 700 < v2 then some (.inr σ) else (if (σ (6, 0, 0) 11) = 0 then some (.inr σ) else px_b1 (F_Re_skipBlanks σ ) fun σ4 =>
  px_gd v2 701 (px_l (px_up σ4 (12, 3, 0) v2.toNatClampNeg (σ4 (6, 0, 0) 10)) fun σ6 =>
  px_l (px_up σ6 (6, 0, 0) 12 0) fun σ7 =>
  px_b1 (F_Re_peekByte σ7 ) fun r8 =>
  px_b1 (F_Re_cutToken σ7 r8) fun σ9 =>
  px_gd v2 701 (px_l (px_up σ9 (12, 1, 0) v2.toNatClampNeg (σ9 (6, 0, 0) 11)) fun σ11 =>
  px_gd v2 701 (px_l (px_up σ11 (12, 2, 0) v2.toNatClampNeg (σ11 (6, 0, 0) 12)) fun σ13 =>
  px_l (px_up σ13 (6, 0, 0) 7 (v2 + 1)) fun σ14 =>
  some (.inl ((v2 + 1), σ14)))))))
set_option maxRecDepth 100000 in
theorem Re_cutAll_n17_l {l : Launch} {ids : List pxI} {Rt : Option pxV → List pxI → pxG → pxS → Prop} {σ : pxS} {v2 : Int32} {o : (Int32 × pxS) ⊕ (pxS)} (h : Re_cutAll_n17 σ v2 = some o) (hC : ∀ s, o = .inl s → pw l (px_R 4) y_Re_cutAll c_Re_cutAll 3 none 17 [(0, .inr (some (6, 0, 0))), (2, .inl s.1)] [] ids cG s.2 0 0 Rt) (hX0 : ∀ e, o = .inr e → pw l (px_R 4) y_Re_cutAll c_Re_cutAll 3 none 91 [] [] ids cG e 0 0 Rt) : pw l (px_R 4) y_Re_cutAll c_Re_cutAll 3 none 17 [(0, .inr (some (6, 0, 0))), (2, .inl v2)] [] ids cG σ 0 0 Rt := by
  unfold Re_cutAll_n17 at h
  refine pw_iload_n 1 (px_at td_Re_cutAll 11 rfl) rfl rfl ?_
  refine pw_sipush (v := 700) (px_at td_Re_cutAll 12 rfl) (by decide) ?_
  rcases px_ite h with ⟨hc16, h⟩ | ⟨hc16, h⟩
  · refine pw_icmp_gt 91 (px_at td_Re_cutAll 13 rfl) (by decide) (fun _ => ?_) (fun hn => absurd hc16 hn)
    refine pw_L [] [] rfl ?_
    exact hX0 σ (Option.some.inj h).symm
  · refine pw_icmp_gt 91 (px_at td_Re_cutAll 13 rfl) (by decide) (fun hn => absurd hn hc16) (fun _ => ?_)
    refine pw_aload_n 0 (px_at td_Re_cutAll 14 rfl) rfl rfl ?_
    refine pw_getf (v := .inl (σ (6, 0, 0) 11)) (px_at td_Re_cutAll 15 rfl) lf_Re_62 rfl rfl rfl ?_
    rcases px_ite h with ⟨hc15, h⟩ | ⟨hc15, h⟩
    · refine pw_if_eq 91 (px_at td_Re_cutAll 16 rfl) (by decide) (fun _ => ?_) (fun hn => absurd hc15 hn)
      refine pw_L [] [] rfl ?_
      exact hX0 σ (Option.some.inj h).symm
    · refine pw_if_eq 91 (px_at td_Re_cutAll 16 rfl) (by decide) (fun hn => absurd hn hc15) (fun _ => ?_)
      refine pw_aload_n 0 (px_at td_Re_cutAll 17 rfl) rfl rfl ?_
      obtain ⟨σ4, hk4, h⟩ := px_b1_e h
      refine pw_cV0 (6, 0, 0) [] [] (px_at td_Re_cutAll 18 rfl) lV_Re_166 rfl rfl rfl (Nat.le_of_ble_eq_true rfl) (by decide) (k_Re_skipBlanks hk4) ?_
      refine pw_aload_n 0 (px_at td_Re_cutAll 19 rfl) rfl rfl ?_
      refine pw_getf (v := .inr (some (12, 3, 0))) (px_at td_Re_cutAll 20 rfl) lf_Re_28 rfl rfl rfl ?_
      refine pw_iload_n 1 (px_at td_Re_cutAll 21 rfl) rfl rfl ?_
      refine pw_aload_n 0 (px_at td_Re_cutAll 22 rfl) rfl rfl ?_
      refine pw_getf (v := .inl (σ4 (6, 0, 0) 10)) (px_at td_Re_cutAll 23 rfl) lf_Re_163 rfl rfl rfl ?_
      obtain ⟨hi5, h⟩ := px_gd_e h
      obtain ⟨σ6, hσ6, h⟩ := px_l_e h
      refine pw_ias (px_at td_Re_cutAll 24 rfl) rfl hi5 rfl hσ6 ?_
      refine pw_aload_n 0 (px_at td_Re_cutAll 25 rfl) rfl rfl ?_
      refine pw_iconst (v := 0) (px_at td_Re_cutAll 26 rfl) (by decide) ?_
      obtain ⟨σ7, hσ7, h⟩ := px_l_e h
      refine pw_puti (px_at td_Re_cutAll 27 rfl) lw_Re_68 rfl rfl (pw_s hσ7 ?_)
      refine pw_aload_n 0 (px_at td_Re_cutAll 28 rfl) rfl rfl ?_
      refine pw_aload_n 0 (px_at td_Re_cutAll 29 rfl) rfl rfl ?_
      obtain ⟨r8, hk8, h⟩ := px_b1_e h
      refine pw_cV1 (6, 0, 0) [] [.inr (some (6, 0, 0))] (px_at td_Re_cutAll 30 rfl) lV_Re_169 rfl rfl rfl (Nat.le_of_ble_eq_true rfl) (by decide) (k_Re_peekByte hk8) ?_
      obtain ⟨σ9, hk9, h⟩ := px_b1_e h
      refine pw_cV0 (6, 0, 0) [.inl r8] [] (px_at td_Re_cutAll 31 rfl) lV_Re_172 rfl rfl rfl (Nat.le_of_ble_eq_true rfl) (by decide) (k_Re_cutToken hk9) ?_
      refine pw_aload_n 0 (px_at td_Re_cutAll 32 rfl) rfl rfl ?_
      refine pw_getf (v := .inr (some (12, 1, 0))) (px_at td_Re_cutAll 33 rfl) lf_Re_22 rfl rfl rfl ?_
      refine pw_iload_n 1 (px_at td_Re_cutAll 34 rfl) rfl rfl ?_
      refine pw_aload_n 0 (px_at td_Re_cutAll 35 rfl) rfl rfl ?_
      refine pw_getf (v := .inl (σ9 (6, 0, 0) 11)) (px_at td_Re_cutAll 36 rfl) lf_Re_62 rfl rfl rfl ?_
      obtain ⟨hi10, h⟩ := px_gd_e h
      obtain ⟨σ11, hσ11, h⟩ := px_l_e h
      refine pw_ias (px_at td_Re_cutAll 37 rfl) rfl hi10 rfl hσ11 ?_
      refine pw_aload_n 0 (px_at td_Re_cutAll 38 rfl) rfl rfl ?_
      refine pw_getf (v := .inr (some (12, 2, 0))) (px_at td_Re_cutAll 39 rfl) lf_Re_25 rfl rfl rfl ?_
      refine pw_iload_n 1 (px_at td_Re_cutAll 40 rfl) rfl rfl ?_
      refine pw_aload_n 0 (px_at td_Re_cutAll 41 rfl) rfl rfl ?_
      refine pw_getf (v := .inl (σ11 (6, 0, 0) 12)) (px_at td_Re_cutAll 42 rfl) lf_Re_68 rfl rfl rfl ?_
      obtain ⟨hi12, h⟩ := px_gd_e h
      obtain ⟨σ13, hσ13, h⟩ := px_l_e h
      refine pw_ias (px_at td_Re_cutAll 43 rfl) rfl hi12 rfl hσ13 ?_
      refine pw_aload_n 0 (px_at td_Re_cutAll 44 rfl) rfl rfl ?_
      refine pw_iload_n 1 (px_at td_Re_cutAll 45 rfl) rfl rfl ?_
      refine pw_iconst (v := 1) (px_at td_Re_cutAll 46 rfl) (by decide) ?_
      refine pw_iadd (px_at td_Re_cutAll 47 rfl) ?_
      obtain ⟨σ14, hσ14, h⟩ := px_l_e h
      refine pw_puti (px_at td_Re_cutAll 48 rfl) lw_Re_59 rfl rfl (pw_s hσ14 ?_)
      refine pw_iinc (q := 1) (v := (v2 + 1)) (L' := [(2, .inl (v2 + 1)), (0, .inr (some (6, 0, 0)))]) (px_at td_Re_cutAll 49 rfl) rfl rfl (by decide) rfl ?_
      refine pw_goto 17 (px_at td_Re_cutAll 50 rfl) (by decide) ?_
      refine pw_L [(0, .inr (some (6, 0, 0))), (2, .inl (v2 + 1))] [1, 0] rfl ?_
      exact hC ((v2 + 1), σ14) (Option.some.inj h).symm
def Re_cutAll_L17  : (Int32 × pxS) → Option ((Int32 × pxS) ⊕ (pxS)) := fun s => Re_cutAll_n17 s.2 s.1
set_option maxRecDepth 100000 in
theorem Re_cutAll_L17_l {l : Launch} {ids : List pxI} {Rt : Option pxV → List pxI → pxG → pxS → Prop}  {n : Nat} {s : Int32 × pxS} {e : pxS} (h : px_it (Re_cutAll_L17 ) n s = some e) (hX0 : pw l (px_R 4) y_Re_cutAll c_Re_cutAll 3 none 91 [] [] ids cG e 0 0 Rt) : pw l (px_R 4) y_Re_cutAll c_Re_cutAll 3 none 17 [(0, .inr (some (6, 0, 0))), (2, .inl s.1)] [] ids cG s.2 0 0 Rt := by
  refine px_it_rule (f := Re_cutAll_L17 ) (C := fun s => pw l (px_R 4) y_Re_cutAll c_Re_cutAll 3 none 17 [(0, .inr (some (6, 0, 0))), (2, .inl s.1)] [] ids cG s.2 0 0 Rt) (X := fun e => (pw l (px_R 4) y_Re_cutAll c_Re_cutAll 3 none 91 [] [] ids cG e 0 0 Rt)) ?_ ?_ n s e h hX0
  · intro s s1 hf hC
    exact Re_cutAll_n17_l hf (fun s2 hs => by cases hs; exact hC) (fun e he => by cases he)
  · intro s e hf hX
    exact Re_cutAll_n17_l hf (fun s2 hs => by cases hs) (fun e1 he => by cases he; exact hX)
def F_Re_cutAll (σ : pxS) (v1 : Int32) : Option (pxS) :=
  px_l (px_up σ (6, 0, 0) 9 v1) fun σ1 =>
  px_l (px_up σ1 (6, 0, 0) 10 0) fun σ2 =>
  px_l (px_up σ2 (6, 0, 0) 11 (-1)) fun σ3 =>
  px_b1 (px_it (Re_cutAll_L17 ) px_N (0, σ3)) fun e17 =>
  some e17
set_option maxRecDepth 100000 in
theorem e_Re_cutAll {l : Launch} {ids : List pxI} {Rt : Option pxV → List pxI → pxG → pxS → Prop} {σ : pxS} {v1 : Int32} {res : pxS} (h : F_Re_cutAll σ v1 = some res) (hR : Rt none ids cG res) : pw l (px_R 4) y_Re_cutAll c_Re_cutAll 3 none 0 [(0, .inr (some (6, 0, 0))), (1, .inl v1)] [] ids cG σ 0 0 Rt := by
  unfold F_Re_cutAll at h
  refine pw_aload_n 0 (px_at td_Re_cutAll 0 rfl) rfl rfl ?_
  refine pw_iload_n 1 (px_at td_Re_cutAll 1 rfl) rfl rfl ?_
  obtain ⟨σ1, hσ1, h⟩ := px_l_e h
  refine pw_puti (px_at td_Re_cutAll 2 rfl) lw_Re_157 rfl rfl (pw_s hσ1 ?_)
  refine pw_aload_n 0 (px_at td_Re_cutAll 3 rfl) rfl rfl ?_
  refine pw_iconst (v := 0) (px_at td_Re_cutAll 4 rfl) (by decide) ?_
  obtain ⟨σ2, hσ2, h⟩ := px_l_e h
  refine pw_puti (px_at td_Re_cutAll 5 rfl) lw_Re_163 rfl rfl (pw_s hσ2 ?_)
  refine pw_aload_n 0 (px_at td_Re_cutAll 6 rfl) rfl rfl ?_
  refine pw_iconst (v := (-1)) (px_at td_Re_cutAll 7 rfl) (by decide) ?_
  obtain ⟨σ3, hσ3, h⟩ := px_l_e h
  refine pw_puti (px_at td_Re_cutAll 8 rfl) lw_Re_62 rfl rfl (pw_s hσ3 ?_)
  refine pw_iconst (v := 0) (px_at td_Re_cutAll 9 rfl) (by decide) ?_
  refine pw_istore_n (L' := [(2, .inl 0), (0, .inr (some (6, 0, 0))), (1, .inl v1)]) (px_at td_Re_cutAll 10 rfl) rfl (by decide) rfl ?_
  obtain ⟨e17, he17, h⟩ := px_b1_e h
  refine pw_L [(0, .inr (some (6, 0, 0))), (2, .inl 0)] [1, 0] rfl ?_
  refine Re_cutAll_L17_l he17 ?_
  obtain rfl := Option.some.inj h
  exact pw_vret (px_at td_Re_cutAll 51 rfl) rfl (Nat.le_refl 0) (Nat.le_refl 0) hR
theorem k_Re_cutAll {l : Launch} {ids : List pxI} {σ : pxS} {v1 : Int32} {res : pxS} (h : F_Re_cutAll σ v1 = some res) : pm l y_Re_cutAll c_Re_cutAll 3 none (px_R 4) [.inr (some (6, 0, 0)), .inl v1] ids cG σ (px_r none ids cG res) :=
  pm_ofF (by decide +kernel) (Nat.le_of_ble_eq_true rfl) (e_Re_cutAll h ⟨rfl, rfl, rfl, rfl⟩)
/-! Re_advance -/
def F_Re_advance (σ : pxS)  : Option (pxS) :=
  (if (σ (6, 0, 0) 13) < 0 then some σ else (if (σ (6, 0, 0) 7) ≤ (σ (6, 0, 0) 13) then some σ else (if 700 < (σ (6, 0, 0) 13) then some σ else px_gd (σ (6, 0, 0) 13) 701 (px_l (px_up σ (6, 0, 0) 11 (σ (12, 1, 0) (σ (6, 0, 0) 13).toNatClampNeg)) fun σ2 =>
  px_gd (σ2 (6, 0, 0) 13) 701 (px_l (px_up σ2 (6, 0, 0) 12 (σ2 (12, 2, 0) (σ2 (6, 0, 0) 13).toNatClampNeg)) fun σ4 =>
  px_l (px_up σ4 (6, 0, 0) 13 ((σ4 (6, 0, 0) 13) + 1)) fun σ5 =>
  some σ5)))))
set_option maxRecDepth 100000 in
theorem e_Re_advance {l : Launch} {ids : List pxI} {Rt : Option pxV → List pxI → pxG → pxS → Prop} {σ : pxS}  {res : pxS} (h : F_Re_advance σ  = some res) (hR : Rt none ids cG res) : pw l (px_R 1) y_Re_advance c_Re_advance 1 none 0 [(0, .inr (some (6, 0, 0)))] [] ids cG σ 0 0 Rt := by
  unfold F_Re_advance at h
  refine pw_aload_n 0 (px_at td_Re_advance 0 rfl) rfl rfl ?_
  refine pw_getf (v := .inl (σ (6, 0, 0) 13)) (px_at td_Re_advance 1 rfl) lf_Re_53 rfl rfl rfl ?_
  rcases px_ite h with ⟨hc8, h⟩ | ⟨hc8, h⟩
  · refine pw_if_lt 64 (px_at td_Re_advance 2 rfl) (by decide) (fun _ => ?_) (fun hn => absurd hc8 hn)
    obtain rfl := Option.some.inj h
    exact pw_vret (px_at td_Re_advance 32 rfl) rfl (Nat.le_refl 0) (Nat.le_refl 0) hR
  · refine pw_if_lt 64 (px_at td_Re_advance 2 rfl) (by decide) (fun hn => absurd hn hc8) (fun _ => ?_)
    refine pw_aload_n 0 (px_at td_Re_advance 3 rfl) rfl rfl ?_
    refine pw_getf (v := .inl (σ (6, 0, 0) 13)) (px_at td_Re_advance 4 rfl) lf_Re_53 rfl rfl rfl ?_
    refine pw_aload_n 0 (px_at td_Re_advance 5 rfl) rfl rfl ?_
    refine pw_getf (v := .inl (σ (6, 0, 0) 7)) (px_at td_Re_advance 6 rfl) lf_Re_59 rfl rfl rfl ?_
    rcases px_ite h with ⟨hc7, h⟩ | ⟨hc7, h⟩
    · refine pw_icmp_ge 64 (px_at td_Re_advance 7 rfl) (by decide) (fun _ => ?_) (fun hn => absurd hc7 hn)
      obtain rfl := Option.some.inj h
      exact pw_vret (px_at td_Re_advance 32 rfl) rfl (Nat.le_refl 0) (Nat.le_refl 0) hR
    · refine pw_icmp_ge 64 (px_at td_Re_advance 7 rfl) (by decide) (fun hn => absurd hn hc7) (fun _ => ?_)
      refine pw_aload_n 0 (px_at td_Re_advance 8 rfl) rfl rfl ?_
      refine pw_getf (v := .inl (σ (6, 0, 0) 13)) (px_at td_Re_advance 9 rfl) lf_Re_53 rfl rfl rfl ?_
      refine pw_sipush (v := 700) (px_at td_Re_advance 10 rfl) (by decide) ?_
      rcases px_ite h with ⟨hc6, h⟩ | ⟨hc6, h⟩
      · refine pw_icmp_gt 64 (px_at td_Re_advance 11 rfl) (by decide) (fun _ => ?_) (fun hn => absurd hc6 hn)
        obtain rfl := Option.some.inj h
        exact pw_vret (px_at td_Re_advance 32 rfl) rfl (Nat.le_refl 0) (Nat.le_refl 0) hR
      · refine pw_icmp_gt 64 (px_at td_Re_advance 11 rfl) (by decide) (fun hn => absurd hn hc6) (fun _ => ?_)
        refine pw_aload_n 0 (px_at td_Re_advance 12 rfl) rfl rfl ?_
        refine pw_aload_n 0 (px_at td_Re_advance 13 rfl) rfl rfl ?_
        refine pw_getf (v := .inr (some (12, 1, 0))) (px_at td_Re_advance 14 rfl) lf_Re_22 rfl rfl rfl ?_
        refine pw_aload_n 0 (px_at td_Re_advance 15 rfl) rfl rfl ?_
        refine pw_getf (v := .inl (σ (6, 0, 0) 13)) (px_at td_Re_advance 16 rfl) lf_Re_53 rfl rfl rfl ?_
        obtain ⟨hi1, h⟩ := px_gd_e h
        refine pw_ial (px_at td_Re_advance 17 rfl) rfl hi1 rfl ?_
        obtain ⟨σ2, hσ2, h⟩ := px_l_e h
        refine pw_puti (px_at td_Re_advance 18 rfl) lw_Re_62 rfl rfl (pw_s hσ2 ?_)
        refine pw_aload_n 0 (px_at td_Re_advance 19 rfl) rfl rfl ?_
        refine pw_aload_n 0 (px_at td_Re_advance 20 rfl) rfl rfl ?_
        refine pw_getf (v := .inr (some (12, 2, 0))) (px_at td_Re_advance 21 rfl) lf_Re_25 rfl rfl rfl ?_
        refine pw_aload_n 0 (px_at td_Re_advance 22 rfl) rfl rfl ?_
        refine pw_getf (v := .inl (σ2 (6, 0, 0) 13)) (px_at td_Re_advance 23 rfl) lf_Re_53 rfl rfl rfl ?_
        obtain ⟨hi3, h⟩ := px_gd_e h
        refine pw_ial (px_at td_Re_advance 24 rfl) rfl hi3 rfl ?_
        obtain ⟨σ4, hσ4, h⟩ := px_l_e h
        refine pw_puti (px_at td_Re_advance 25 rfl) lw_Re_68 rfl rfl (pw_s hσ4 ?_)
        refine pw_aload_n 0 (px_at td_Re_advance 26 rfl) rfl rfl ?_
        refine pw_dup (px_at td_Re_advance 27 rfl) ?_
        refine pw_getf (v := .inl (σ4 (6, 0, 0) 13)) (px_at td_Re_advance 28 rfl) lf_Re_53 rfl rfl rfl ?_
        refine pw_iconst (v := 1) (px_at td_Re_advance 29 rfl) (by decide) ?_
        refine pw_iadd (px_at td_Re_advance 30 rfl) ?_
        obtain ⟨σ5, hσ5, h⟩ := px_l_e h
        refine pw_puti (px_at td_Re_advance 31 rfl) lw_Re_53 rfl rfl (pw_s hσ5 ?_)
        obtain rfl := Option.some.inj h
        exact pw_vret (px_at td_Re_advance 32 rfl) rfl (Nat.le_refl 0) (Nat.le_refl 0) hR
theorem k_Re_advance {l : Launch} {ids : List pxI} {σ : pxS}  {res : pxS} (h : F_Re_advance σ  = some res) : pm l y_Re_advance c_Re_advance 1 none (px_R 1) [.inr (some (6, 0, 0))] ids cG σ (px_r none ids cG res) :=
  pm_ofF (by decide +kernel) (Nat.le_of_ble_eq_true rfl) (e_Re_advance h ⟨rfl, rfl, rfl, rfl⟩)
/-! Re_refuse -/
def F_Re_refuse (σ : pxS) (v1 : Int32) : Option (pxS) :=
  px_l (px_up σ (6, 0, 0) 1 v1) fun σ1 =>
  (if (σ1 (6, 0, 0) 13) < 1 then px_l (px_up σ1 (6, 0, 0) 2 (σ1 (6, 0, 0) 9)) fun σ2 =>
  some σ2 else (if 701 < (σ1 (6, 0, 0) 13) then px_l (px_up σ1 (6, 0, 0) 2 (σ1 (6, 0, 0) 9)) fun σ3 =>
  some σ3 else px_gd ((σ1 (6, 0, 0) 13) - 1) 701 (px_l (px_up σ1 (6, 0, 0) 2 (σ1 (12, 3, 0) ((σ1 (6, 0, 0) 13) - 1).toNatClampNeg)) fun σ5 =>
  some σ5)))
set_option maxRecDepth 100000 in
theorem e_Re_refuse {l : Launch} {ids : List pxI} {Rt : Option pxV → List pxI → pxG → pxS → Prop} {σ : pxS} {v1 : Int32} {res : pxS} (h : F_Re_refuse σ v1 = some res) (hR : Rt none ids cG res) : pw l (px_R 1) y_Re_refuse c_Re_refuse 2 none 0 [(0, .inr (some (6, 0, 0))), (1, .inl v1)] [] ids cG σ 0 0 Rt := by
  unfold F_Re_refuse at h
  refine pw_aload_n 0 (px_at td_Re_refuse 0 rfl) rfl rfl ?_
  refine pw_iload_n 1 (px_at td_Re_refuse 1 rfl) rfl rfl ?_
  obtain ⟨σ1, hσ1, h⟩ := px_l_e h
  refine pw_puti (px_at td_Re_refuse 2 rfl) lw_Re_50 rfl rfl (pw_s hσ1 ?_)
  refine pw_aload_n 0 (px_at td_Re_refuse 3 rfl) rfl rfl ?_
  refine pw_aload_n 0 (px_at td_Re_refuse 4 rfl) rfl rfl ?_
  refine pw_getf (v := .inl (σ1 (6, 0, 0) 13)) (px_at td_Re_refuse 5 rfl) lf_Re_53 rfl rfl rfl ?_
  refine pw_iconst (v := 1) (px_at td_Re_refuse 6 rfl) (by decide) ?_
  rcases px_ite h with ⟨hc7, h⟩ | ⟨hc7, h⟩
  · refine pw_icmp_lt 38 (px_at td_Re_refuse 7 rfl) (by decide) (fun _ => ?_) (fun hn => absurd hc7 hn)
    refine pw_aload_n 0 (px_at td_Re_refuse 20 rfl) rfl rfl ?_
    refine pw_getf (v := .inl (σ1 (6, 0, 0) 9)) (px_at td_Re_refuse 21 rfl) lf_Re_157 rfl rfl rfl ?_
    obtain ⟨σ2, hσ2, h⟩ := px_l_e h
    refine pw_puti (px_at td_Re_refuse 22 rfl) lw_Re_160 rfl rfl (pw_s hσ2 ?_)
    obtain rfl := Option.some.inj h
    exact pw_vret (px_at td_Re_refuse 23 rfl) rfl (Nat.le_refl 0) (Nat.le_refl 0) hR
  · refine pw_icmp_lt 38 (px_at td_Re_refuse 7 rfl) (by decide) (fun hn => absurd hn hc7) (fun _ => ?_)
    refine pw_aload_n 0 (px_at td_Re_refuse 8 rfl) rfl rfl ?_
    refine pw_getf (v := .inl (σ1 (6, 0, 0) 13)) (px_at td_Re_refuse 9 rfl) lf_Re_53 rfl rfl rfl ?_
    refine pw_sipush (v := 701) (px_at td_Re_refuse 10 rfl) (by decide) ?_
    rcases px_ite h with ⟨hc6, h⟩ | ⟨hc6, h⟩
    · refine pw_icmp_gt 38 (px_at td_Re_refuse 11 rfl) (by decide) (fun _ => ?_) (fun hn => absurd hc6 hn)
      refine pw_aload_n 0 (px_at td_Re_refuse 20 rfl) rfl rfl ?_
      refine pw_getf (v := .inl (σ1 (6, 0, 0) 9)) (px_at td_Re_refuse 21 rfl) lf_Re_157 rfl rfl rfl ?_
      obtain ⟨σ3, hσ3, h⟩ := px_l_e h
      refine pw_puti (px_at td_Re_refuse 22 rfl) lw_Re_160 rfl rfl (pw_s hσ3 ?_)
      obtain rfl := Option.some.inj h
      exact pw_vret (px_at td_Re_refuse 23 rfl) rfl (Nat.le_refl 0) (Nat.le_refl 0) hR
    · refine pw_icmp_gt 38 (px_at td_Re_refuse 11 rfl) (by decide) (fun hn => absurd hn hc6) (fun _ => ?_)
      refine pw_aload_n 0 (px_at td_Re_refuse 12 rfl) rfl rfl ?_
      refine pw_getf (v := .inr (some (12, 3, 0))) (px_at td_Re_refuse 13 rfl) lf_Re_28 rfl rfl rfl ?_
      refine pw_aload_n 0 (px_at td_Re_refuse 14 rfl) rfl rfl ?_
      refine pw_getf (v := .inl (σ1 (6, 0, 0) 13)) (px_at td_Re_refuse 15 rfl) lf_Re_53 rfl rfl rfl ?_
      refine pw_iconst (v := 1) (px_at td_Re_refuse 16 rfl) (by decide) ?_
      refine pw_isub (px_at td_Re_refuse 17 rfl) ?_
      obtain ⟨hi4, h⟩ := px_gd_e h
      refine pw_ial (px_at td_Re_refuse 18 rfl) rfl hi4 rfl ?_
      refine pw_goto 42 (px_at td_Re_refuse 19 rfl) (by decide) ?_
      obtain ⟨σ5, hσ5, h⟩ := px_l_e h
      refine pw_puti (px_at td_Re_refuse 22 rfl) lw_Re_160 rfl rfl (pw_s hσ5 ?_)
      obtain rfl := Option.some.inj h
      exact pw_vret (px_at td_Re_refuse 23 rfl) rfl (Nat.le_refl 0) (Nat.le_refl 0) hR
theorem k_Re_refuse {l : Launch} {ids : List pxI} {σ : pxS} {v1 : Int32} {res : pxS} (h : F_Re_refuse σ v1 = some res) : pm l y_Re_refuse c_Re_refuse 2 none (px_R 1) [.inr (some (6, 0, 0)), .inl v1] ids cG σ (px_r none ids cG res) :=
  pm_ofF (by decide +kernel) (Nat.le_of_ble_eq_true rfl) (e_Re_refuse h ⟨rfl, rfl, rfl, rfl⟩)
/-! Re_take -/
def F_Re_take (σ : pxS) (v1 : Int32) : Option (pxS) :=
  (if (σ (6, 0, 0) 1) = 0 then (if (σ (6, 0, 0) 11) = v1 then px_b1 (F_Re_advance σ ) fun σ2 =>
  some σ2 else px_b1 (F_Re_refuse σ 1) fun σ1 =>
  some σ1) else some σ)
set_option maxRecDepth 100000 in
theorem e_Re_take {l : Launch} {ids : List pxI} {Rt : Option pxV → List pxI → pxG → pxS → Prop} {σ : pxS} {v1 : Int32} {res : pxS} (h : F_Re_take σ v1 = some res) (hR : Rt none ids cG res) : pw l (px_R 2) y_Re_take c_Re_take 2 none 0 [(0, .inr (some (6, 0, 0))), (1, .inl v1)] [] ids cG σ 0 0 Rt := by
  unfold F_Re_take at h
  refine pw_aload_n 0 (px_at td_Re_take 0 rfl) rfl rfl ?_
  refine pw_getf (v := .inl (σ (6, 0, 0) 1)) (px_at td_Re_take 1 rfl) lf_Re_50 rfl rfl rfl ?_
  rcases px_ite h with ⟨hc4, h⟩ | ⟨hc4, h⟩
  · refine pw_if_eq 8 (px_at td_Re_take 2 rfl) (by decide) (fun _ => ?_) (fun hn => absurd hc4 hn)
    refine pw_aload_n 0 (px_at td_Re_take 4 rfl) rfl rfl ?_
    refine pw_getf (v := .inl (σ (6, 0, 0) 11)) (px_at td_Re_take 5 rfl) lf_Re_62 rfl rfl rfl ?_
    refine pw_iload_n 1 (px_at td_Re_take 6 rfl) rfl rfl ?_
    rcases px_ite h with ⟨hc3, h⟩ | ⟨hc3, h⟩
    · refine pw_icmp_ne 23 (px_at td_Re_take 7 rfl) (by decide) (fun hn => absurd hc3 hn) (fun _ => ?_)
      refine pw_aload_n 0 (px_at td_Re_take 8 rfl) rfl rfl ?_
      obtain ⟨σ2, hk2, h⟩ := px_b1_e h
      refine pw_cV0 (6, 0, 0) [] [] (px_at td_Re_take 9 rfl) lV_Re_56 rfl rfl rfl (Nat.le_of_ble_eq_true rfl) (by decide) (k_Re_advance hk2) ?_
      refine pw_goto 28 (px_at td_Re_take 10 rfl) (by decide) ?_
      obtain rfl := Option.some.inj h
      exact pw_vret (px_at td_Re_take 14 rfl) rfl (Nat.le_refl 0) (Nat.le_refl 0) hR
    · refine pw_icmp_ne 23 (px_at td_Re_take 7 rfl) (by decide) (fun _ => ?_) (fun hn => absurd hn hc3)
      refine pw_aload_n 0 (px_at td_Re_take 11 rfl) rfl rfl ?_
      refine pw_iconst (v := 1) (px_at td_Re_take 12 rfl) (by decide) ?_
      obtain ⟨σ1, hk1, h⟩ := px_b1_e h
      refine pw_cV0 (6, 0, 0) [.inl 1] [] (px_at td_Re_take 13 rfl) lV_Re_71 rfl rfl rfl (Nat.le_of_ble_eq_true rfl) (by decide) (k_Re_refuse hk1) ?_
      obtain rfl := Option.some.inj h
      exact pw_vret (px_at td_Re_take 14 rfl) rfl (Nat.le_refl 0) (Nat.le_refl 0) hR
  · refine pw_if_eq 8 (px_at td_Re_take 2 rfl) (by decide) (fun hn => absurd hn hc4) (fun _ => ?_)
    obtain rfl := Option.some.inj h
    exact pw_vret (px_at td_Re_take 3 rfl) rfl (Nat.le_refl 0) (Nat.le_refl 0) hR
theorem k_Re_take {l : Launch} {ids : List pxI} {σ : pxS} {v1 : Int32} {res : pxS} (h : F_Re_take σ v1 = some res) : pm l y_Re_take c_Re_take 2 none (px_R 2) [.inr (some (6, 0, 0)), .inl v1] ids cG σ (px_r none ids cG res) :=
  pm_ofF (by decide +kernel) (Nat.le_of_ble_eq_true rfl) (e_Re_take h ⟨rfl, rfl, rfl, rfl⟩)
/-! Re_number -/
def Re_number_n35 (σ : pxS) (v3 : Int32) : Option (Int32 × pxS) :=
  px_b1 (F_Re_take σ 3) fun σ1 =>
  some (v3, σ1)
set_option maxRecDepth 100000 in
theorem Re_number_n35_l {l : Launch} {ids : List pxI} {Rt : Option pxV → List pxI → pxG → pxS → Prop} {σ : pxS} {v3 : Int32} {res : Int32 × pxS} (h : Re_number_n35 σ v3 = some res) (hR : Rt (some (.inl res.1)) ids cG res.2) : pw l (px_R 3) y_Re_number c_Re_number 4 (some .int) 35 [(0, .inr (some (6, 0, 0))), (3, .inl v3)] [] ids cG σ 0 0 Rt := by
  unfold Re_number_n35 at h
  refine pw_aload_n 0 (px_at td_Re_number 19 rfl) rfl rfl ?_
  refine pw_iconst (v := 3) (px_at td_Re_number 20 rfl) (by decide) ?_
  obtain ⟨σ1, hk1, h⟩ := px_b1_e h
  refine pw_cV0 (6, 0, 0) [.inl 3] [] (px_at td_Re_number 21 rfl) lV_Re_86 rfl rfl rfl (Nat.le_of_ble_eq_true rfl) (by decide) (k_Re_take hk1) ?_
  refine pw_iload_n 1 (px_at td_Re_number 22 rfl) rfl rfl ?_
  obtain rfl := Option.some.inj h
  exact pw_iret (px_at td_Re_number 23 rfl) rfl (Nat.le_refl 0) (Nat.le_refl 0) hR
def Re_number_n30 (σ : pxS) (v3 : Int32) : Option (Int32 × pxS) :=
  px_b1 (F_Re_refuse σ 2) fun σ2 =>
  Re_number_n35 σ2 v3
set_option maxRecDepth 100000 in
theorem Re_number_n30_l {l : Launch} {ids : List pxI} {Rt : Option pxV → List pxI → pxG → pxS → Prop} {σ : pxS} {v3 : Int32} {res : Int32 × pxS} (h : Re_number_n30 σ v3 = some res) (hR : Rt (some (.inl res.1)) ids cG res.2) : pw l (px_R 3) y_Re_number c_Re_number 4 (some .int) 30 [(0, .inr (some (6, 0, 0))), (3, .inl v3)] [] ids cG σ 0 0 Rt := by
  unfold Re_number_n30 at h
  refine pw_aload_n 0 (px_at td_Re_number 16 rfl) rfl rfl ?_
  refine pw_iconst (v := 2) (px_at td_Re_number 17 rfl) (by decide) ?_
  obtain ⟨σ2, hk2, h⟩ := px_b1_e h
  refine pw_cV0 (6, 0, 0) [.inl 2] [] (px_at td_Re_number 18 rfl) lV_Re_71 rfl rfl rfl (Nat.le_of_ble_eq_true rfl) (by decide) (k_Re_refuse hk2) ?_
  exact Re_number_n35_l h hR
def F_Re_number (σ : pxS) (v1 : Int32) (v2 : Int32) : Option (Int32 × pxS) :=
  (if (σ (6, 0, 0) 1) = 0 then (if (σ (6, 0, 0) 11) = 3 then (if (σ (6, 0, 0) 12) < v1 then Re_number_n30 σ (σ (6, 0, 0) 12) else (if (σ (6, 0, 0) 12) ≤ v2 then Re_number_n35 σ (σ (6, 0, 0) 12) else Re_number_n30 σ (σ (6, 0, 0) 12))) else Re_number_n35 σ (σ (6, 0, 0) 12)) else Re_number_n35 σ (σ (6, 0, 0) 12))
set_option maxRecDepth 100000 in
theorem e_Re_number {l : Launch} {ids : List pxI} {Rt : Option pxV → List pxI → pxG → pxS → Prop} {σ : pxS} {v1 : Int32} {v2 : Int32} {res : Int32 × pxS} (h : F_Re_number σ v1 v2 = some res) (hR : Rt (some (.inl res.1)) ids cG res.2) : pw l (px_R 3) y_Re_number c_Re_number 4 (some .int) 0 [(0, .inr (some (6, 0, 0))), (1, .inl v1), (2, .inl v2)] [] ids cG σ 0 0 Rt := by
  unfold F_Re_number at h
  refine pw_aload_n 0 (px_at td_Re_number 0 rfl) rfl rfl ?_
  refine pw_getf (v := .inl (σ (6, 0, 0) 12)) (px_at td_Re_number 1 rfl) lf_Re_68 rfl rfl rfl ?_
  refine pw_istore_n (L' := [(3, .inl (σ (6, 0, 0) 12)), (0, .inr (some (6, 0, 0))), (1, .inl v1), (2, .inl v2)]) (px_at td_Re_number 2 rfl) rfl (by decide) rfl ?_
  refine pw_aload_n 1 (px_at td_Re_number 3 rfl) rfl rfl ?_
  refine pw_getf (v := .inl (σ (6, 0, 0) 1)) (px_at td_Re_number 4 rfl) lf_Re_50 rfl rfl rfl ?_
  rcases px_ite h with ⟨hc6, h⟩ | ⟨hc6, h⟩
  · refine pw_if_ne 35 (px_at td_Re_number 5 rfl) (by decide) (fun hn => absurd hc6 hn) (fun _ => ?_)
    refine pw_aload_n 1 (px_at td_Re_number 6 rfl) rfl rfl ?_
    refine pw_getf (v := .inl (σ (6, 0, 0) 11)) (px_at td_Re_number 7 rfl) lf_Re_62 rfl rfl rfl ?_
    refine pw_iconst (v := 3) (px_at td_Re_number 8 rfl) (by decide) ?_
    rcases px_ite h with ⟨hc5, h⟩ | ⟨hc5, h⟩
    · refine pw_icmp_ne 35 (px_at td_Re_number 9 rfl) (by decide) (fun hn => absurd hc5 hn) (fun _ => ?_)
      refine pw_iload_n 0 (px_at td_Re_number 10 rfl) rfl rfl ?_
      refine pw_iload_n 2 (px_at td_Re_number 11 rfl) rfl rfl ?_
      rcases px_ite h with ⟨hc4, h⟩ | ⟨hc4, h⟩
      · refine pw_icmp_lt 30 (px_at td_Re_number 12 rfl) (by decide) (fun _ => ?_) (fun hn => absurd hc4 hn)
        refine pw_L [(0, .inr (some (6, 0, 0))), (3, .inl (σ (6, 0, 0) 12))] [1, 0] rfl ?_
        exact Re_number_n30_l h hR
      · refine pw_icmp_lt 30 (px_at td_Re_number 12 rfl) (by decide) (fun hn => absurd hn hc4) (fun _ => ?_)
        refine pw_iload_n 0 (px_at td_Re_number 13 rfl) rfl rfl ?_
        refine pw_iload_n 3 (px_at td_Re_number 14 rfl) rfl rfl ?_
        rcases px_ite h with ⟨hc3, h⟩ | ⟨hc3, h⟩
        · refine pw_icmp_le 35 (px_at td_Re_number 15 rfl) (by decide) (fun _ => ?_) (fun hn => absurd hc3 hn)
          refine pw_L [(0, .inr (some (6, 0, 0))), (3, .inl (σ (6, 0, 0) 12))] [1, 0] rfl ?_
          exact Re_number_n35_l h hR
        · refine pw_icmp_le 35 (px_at td_Re_number 15 rfl) (by decide) (fun hn => absurd hn hc3) (fun _ => ?_)
          refine pw_L [(0, .inr (some (6, 0, 0))), (3, .inl (σ (6, 0, 0) 12))] [1, 0] rfl ?_
          exact Re_number_n30_l h hR
    · refine pw_icmp_ne 35 (px_at td_Re_number 9 rfl) (by decide) (fun _ => ?_) (fun hn => absurd hn hc5)
      refine pw_L [(0, .inr (some (6, 0, 0))), (3, .inl (σ (6, 0, 0) 12))] [1, 0] rfl ?_
      exact Re_number_n35_l h hR
  · refine pw_if_ne 35 (px_at td_Re_number 5 rfl) (by decide) (fun _ => ?_) (fun hn => absurd hn hc6)
    refine pw_L [(0, .inr (some (6, 0, 0))), (3, .inl (σ (6, 0, 0) 12))] [1, 0] rfl ?_
    exact Re_number_n35_l h hR
theorem k_Re_number {l : Launch} {ids : List pxI} {σ : pxS} {v1 : Int32} {v2 : Int32} {res : Int32 × pxS} (h : F_Re_number σ v1 v2 = some res) : pm l y_Re_number c_Re_number 4 (some .int) (px_R 3) [.inr (some (6, 0, 0)), .inl v1, .inl v2] ids cG σ (px_r (some (.inl res.1)) ids cG res.2) :=
  pm_ofF (by decide +kernel) (Nat.le_of_ble_eq_true rfl) (e_Re_number h ⟨rfl, rfl, rfl, rfl⟩)
/-! Re_readSetting -/
def F_Re_readSetting (σ : pxS) (v1 : Int32) : Option (pxS) :=
  (if (((σ (6, 0, 0) 14) >>> (v1 &&& 31)) &&& 1) = 0 then px_l (px_up σ (6, 0, 0) 14 ((σ (6, 0, 0) 14) ||| (1 <<< (v1 &&& 31)))) fun σ1 =>
  px_b1 (F_Re_advance σ1 ) fun σ2 =>
  (if (v1 - 6) = 0 then px_b2 (F_Re_number σ2 1 999) fun r6 σ6 =>
  px_l (px_up σ6 (8, (σ2 (6, 0, 0) 0).toNatClampNeg, 14) 0 r6) fun σ7 =>
  some σ7 else (if (v1 - 6) = 1 then px_b2 (F_Re_number σ2 1 9999) fun r8 σ8 =>
  px_l (px_up σ8 (8, (σ2 (6, 0, 0) 0).toNatClampNeg, 14) 1 r8) fun σ9 =>
  some σ9 else (if (v1 - 6) = 2 then px_b2 (F_Re_number σ2 1 100) fun r10 σ10 =>
  px_l (px_up σ10 (8, (σ2 (6, 0, 0) 0).toNatClampNeg, 14) 2 r10) fun σ11 =>
  some σ11 else (if (v1 - 6) = 3 then px_b2 (F_Re_number σ2 1 9) fun r12 σ12 =>
  px_l (px_up σ12 (8, (σ2 (6, 0, 0) 0).toNatClampNeg, 14) 3 r12) fun σ13 =>
  some σ13 else (if (v1 - 6) = 4 then px_b2 (F_Re_number σ2 0 9) fun r14 σ14 =>
  px_l (px_up σ14 (8, (σ2 (6, 0, 0) 0).toNatClampNeg, 14) 4 r14) fun σ15 =>
  px_b2 (F_Re_number σ15 1 99) fun r16 σ16 =>
  px_l (px_up σ16 (8, (σ15 (6, 0, 0) 0).toNatClampNeg, 14) 5 r16) fun σ17 =>
  some σ17 else (if (v1 - 6) = 5 then px_b2 (F_Re_number σ2 1 999999) fun r18 σ18 =>
  px_l (px_up σ18 (8, (σ2 (6, 0, 0) 0).toNatClampNeg, 14) 6 r18) fun σ19 =>
  some σ19 else px_b2 (F_Re_number σ2 0 99999) fun r4 σ4 =>
  px_l (px_up σ4 (8, (σ2 (6, 0, 0) 0).toNatClampNeg, 14) 7 r4) fun σ5 =>
  some σ5)))))) else px_b1 (F_Re_refuse σ 3) fun σ20 =>
  some σ20)
set_option maxRecDepth 100000 in
theorem e_Re_readSetting {l : Launch} {ids : List pxI} {Rt : Option pxV → List pxI → pxG → pxS → Prop} {σ : pxS} {v1 : Int32} {res : pxS} (h : F_Re_readSetting σ v1 = some res) (hR : Rt none ids cG res) : pw l (px_R 4) y_Re_readSetting c_Re_readSetting 2 none 0 [(0, .inr (some (6, 0, 0))), (1, .inl v1)] [] ids cG σ 0 0 Rt := by
  unfold F_Re_readSetting at h
  refine pw_aload_n 0 (px_at td_Re_readSetting 0 rfl) rfl rfl ?_
  refine pw_getf (v := .inl (σ (6, 0, 0) 14)) (px_at td_Re_readSetting 1 rfl) lf_Re_46 rfl rfl rfl ?_
  refine pw_iload_n 1 (px_at td_Re_readSetting 2 rfl) rfl rfl ?_
  refine pw_ishr (px_at td_Re_readSetting 3 rfl) ?_
  refine pw_iconst (v := 1) (px_at td_Re_readSetting 4 rfl) (by decide) ?_
  refine pw_iand (px_at td_Re_readSetting 5 rfl) ?_
  rcases px_ite h with ⟨hc21, h⟩ | ⟨hc21, h⟩
  · refine pw_if_eq 17 (px_at td_Re_readSetting 6 rfl) (by decide) (fun _ => ?_) (fun hn => absurd hc21 hn)
    refine pw_aload_n 0 (px_at td_Re_readSetting 11 rfl) rfl rfl ?_
    refine pw_dup (px_at td_Re_readSetting 12 rfl) ?_
    refine pw_getf (v := .inl (σ (6, 0, 0) 14)) (px_at td_Re_readSetting 13 rfl) lf_Re_46 rfl rfl rfl ?_
    refine pw_iconst (v := 1) (px_at td_Re_readSetting 14 rfl) (by decide) ?_
    refine pw_iload_n 1 (px_at td_Re_readSetting 15 rfl) rfl rfl ?_
    refine pw_ishl (px_at td_Re_readSetting 16 rfl) ?_
    refine pw_ior (px_at td_Re_readSetting 17 rfl) ?_
    obtain ⟨σ1, hσ1, h⟩ := px_l_e h
    refine pw_puti (px_at td_Re_readSetting 18 rfl) lw_Re_46 rfl rfl (pw_s hσ1 ?_)
    refine pw_aload_n 0 (px_at td_Re_readSetting 19 rfl) rfl rfl ?_
    obtain ⟨σ2, hk2, h⟩ := px_b1_e h
    refine pw_cV0 (6, 0, 0) [] [] (px_at td_Re_readSetting 20 rfl) lV_Re_56 rfl rfl rfl (Nat.le_of_ble_eq_true rfl) (by decide) (k_Re_advance hk2) ?_
    refine pw_iload_n 1 (px_at td_Re_readSetting 21 rfl) rfl rfl ?_
    refine pw_bipush (v := 6) (px_at td_Re_readSetting 22 rfl) (by decide) ?_
    refine pw_isub (px_at td_Re_readSetting 23 rfl) ?_
    rcases px_ite h with ⟨hs3_0, h⟩ | ⟨hs3_0, h⟩
    · refine pw_tin (off := 39) 0 76 (px_at td_Re_readSetting 24 rfl) hs3_0 (by decide) (by decide) (by decide) (by decide) ?_
      refine pw_aload_n 0 (px_at td_Re_readSetting 25 rfl) rfl rfl ?_
      refine pw_getf (v := .inr (some (1, (σ2 (6, 0, 0) 0).toNatClampNeg, 0))) (px_at td_Re_readSetting 26 rfl) lf_Re_12 rfl rfl rfl ?_
      refine pw_getf (v := .inr (some (8, (σ2 (6, 0, 0) 0).toNatClampNeg, 14))) (px_at td_Re_readSetting 27 rfl) lf_Re_148 rfl rfl rfl ?_
      refine pw_iconst (v := 0) (px_at td_Re_readSetting 28 rfl) (by decide) ?_
      refine pw_aload_n 0 (px_at td_Re_readSetting 29 rfl) rfl rfl ?_
      refine pw_iconst (v := 1) (px_at td_Re_readSetting 30 rfl) (by decide) ?_
      refine pw_sipush (v := 999) (px_at td_Re_readSetting 31 rfl) (by decide) ?_
      obtain ⟨r6, σ6, hk6, h⟩ := px_b2_e h
      refine pw_cV1 (6, 0, 0) [.inl 1, .inl 999] [.inl 0, .inr (some (8, (σ2 (6, 0, 0) 0).toNatClampNeg, 14))] (px_at td_Re_readSetting 32 rfl) lV_Re_108 rfl rfl rfl (Nat.le_of_ble_eq_true rfl) (by decide) (k_Re_number hk6) ?_
      obtain ⟨σ7, hσ7, h⟩ := px_l_e h
      refine pw_ias (px_at td_Re_readSetting 33 rfl) rfl (px_inL (by decide) px_z0 (by decide)) px_z0 hσ7 ?_
      refine pw_goto 226 (px_at td_Re_readSetting 34 rfl) (by decide) ?_
      obtain rfl := Option.some.inj h
      exact pw_vret (px_at td_Re_readSetting 103 rfl) rfl (Nat.le_refl 0) (Nat.le_refl 0) hR
    · have hd3_0 := trivial
      rcases px_ite h with ⟨hs3_1, h⟩ | ⟨hs3_1, h⟩
      · refine pw_tin (off := 59) 1 96 (px_at td_Re_readSetting 24 rfl) hs3_1 (by decide) (by decide) (by decide) (by decide) ?_
        refine pw_aload_n 0 (px_at td_Re_readSetting 35 rfl) rfl rfl ?_
        refine pw_getf (v := .inr (some (1, (σ2 (6, 0, 0) 0).toNatClampNeg, 0))) (px_at td_Re_readSetting 36 rfl) lf_Re_12 rfl rfl rfl ?_
        refine pw_getf (v := .inr (some (8, (σ2 (6, 0, 0) 0).toNatClampNeg, 14))) (px_at td_Re_readSetting 37 rfl) lf_Re_148 rfl rfl rfl ?_
        refine pw_iconst (v := 1) (px_at td_Re_readSetting 38 rfl) (by decide) ?_
        refine pw_aload_n 0 (px_at td_Re_readSetting 39 rfl) rfl rfl ?_
        refine pw_iconst (v := 1) (px_at td_Re_readSetting 40 rfl) (by decide) ?_
        refine pw_sipush (v := 9999) (px_at td_Re_readSetting 41 rfl) (by decide) ?_
        obtain ⟨r8, σ8, hk8, h⟩ := px_b2_e h
        refine pw_cV1 (6, 0, 0) [.inl 1, .inl 9999] [.inl 1, .inr (some (8, (σ2 (6, 0, 0) 0).toNatClampNeg, 14))] (px_at td_Re_readSetting 42 rfl) lV_Re_108 rfl rfl rfl (Nat.le_of_ble_eq_true rfl) (by decide) (k_Re_number hk8) ?_
        obtain ⟨σ9, hσ9, h⟩ := px_l_e h
        refine pw_ias (px_at td_Re_readSetting 43 rfl) rfl (px_inL (by decide) px_z1 (by decide)) px_z1 hσ9 ?_
        refine pw_goto 226 (px_at td_Re_readSetting 44 rfl) (by decide) ?_
        obtain rfl := Option.some.inj h
        exact pw_vret (px_at td_Re_readSetting 103 rfl) rfl (Nat.le_refl 0) (Nat.le_refl 0) hR
      · have hd3_1 := trivial
        rcases px_ite h with ⟨hs3_2, h⟩ | ⟨hs3_2, h⟩
        · refine pw_tin (off := 79) 2 116 (px_at td_Re_readSetting 24 rfl) hs3_2 (by decide) (by decide) (by decide) (by decide) ?_
          refine pw_aload_n 0 (px_at td_Re_readSetting 45 rfl) rfl rfl ?_
          refine pw_getf (v := .inr (some (1, (σ2 (6, 0, 0) 0).toNatClampNeg, 0))) (px_at td_Re_readSetting 46 rfl) lf_Re_12 rfl rfl rfl ?_
          refine pw_getf (v := .inr (some (8, (σ2 (6, 0, 0) 0).toNatClampNeg, 14))) (px_at td_Re_readSetting 47 rfl) lf_Re_148 rfl rfl rfl ?_
          refine pw_iconst (v := 2) (px_at td_Re_readSetting 48 rfl) (by decide) ?_
          refine pw_aload_n 0 (px_at td_Re_readSetting 49 rfl) rfl rfl ?_
          refine pw_iconst (v := 1) (px_at td_Re_readSetting 50 rfl) (by decide) ?_
          refine pw_bipush (v := 100) (px_at td_Re_readSetting 51 rfl) (by decide) ?_
          obtain ⟨r10, σ10, hk10, h⟩ := px_b2_e h
          refine pw_cV1 (6, 0, 0) [.inl 1, .inl 100] [.inl 2, .inr (some (8, (σ2 (6, 0, 0) 0).toNatClampNeg, 14))] (px_at td_Re_readSetting 52 rfl) lV_Re_108 rfl rfl rfl (Nat.le_of_ble_eq_true rfl) (by decide) (k_Re_number hk10) ?_
          obtain ⟨σ11, hσ11, h⟩ := px_l_e h
          refine pw_ias (px_at td_Re_readSetting 53 rfl) rfl (px_inL (by decide) px_z2 (by decide)) px_z2 hσ11 ?_
          refine pw_goto 226 (px_at td_Re_readSetting 54 rfl) (by decide) ?_
          obtain rfl := Option.some.inj h
          exact pw_vret (px_at td_Re_readSetting 103 rfl) rfl (Nat.le_refl 0) (Nat.le_refl 0) hR
        · have hd3_2 := trivial
          rcases px_ite h with ⟨hs3_3, h⟩ | ⟨hs3_3, h⟩
          · refine pw_tin (off := 98) 3 135 (px_at td_Re_readSetting 24 rfl) hs3_3 (by decide) (by decide) (by decide) (by decide) ?_
            refine pw_aload_n 0 (px_at td_Re_readSetting 55 rfl) rfl rfl ?_
            refine pw_getf (v := .inr (some (1, (σ2 (6, 0, 0) 0).toNatClampNeg, 0))) (px_at td_Re_readSetting 56 rfl) lf_Re_12 rfl rfl rfl ?_
            refine pw_getf (v := .inr (some (8, (σ2 (6, 0, 0) 0).toNatClampNeg, 14))) (px_at td_Re_readSetting 57 rfl) lf_Re_148 rfl rfl rfl ?_
            refine pw_iconst (v := 3) (px_at td_Re_readSetting 58 rfl) (by decide) ?_
            refine pw_aload_n 0 (px_at td_Re_readSetting 59 rfl) rfl rfl ?_
            refine pw_iconst (v := 1) (px_at td_Re_readSetting 60 rfl) (by decide) ?_
            refine pw_bipush (v := 9) (px_at td_Re_readSetting 61 rfl) (by decide) ?_
            obtain ⟨r12, σ12, hk12, h⟩ := px_b2_e h
            refine pw_cV1 (6, 0, 0) [.inl 1, .inl 9] [.inl 3, .inr (some (8, (σ2 (6, 0, 0) 0).toNatClampNeg, 14))] (px_at td_Re_readSetting 62 rfl) lV_Re_108 rfl rfl rfl (Nat.le_of_ble_eq_true rfl) (by decide) (k_Re_number hk12) ?_
            obtain ⟨σ13, hσ13, h⟩ := px_l_e h
            refine pw_ias (px_at td_Re_readSetting 63 rfl) rfl (px_inL (by decide) px_z3 (by decide)) px_z3 hσ13 ?_
            refine pw_goto 226 (px_at td_Re_readSetting 64 rfl) (by decide) ?_
            obtain rfl := Option.some.inj h
            exact pw_vret (px_at td_Re_readSetting 103 rfl) rfl (Nat.le_refl 0) (Nat.le_refl 0) hR
          · have hd3_3 := trivial
            rcases px_ite h with ⟨hs3_4, h⟩ | ⟨hs3_4, h⟩
            · refine pw_tin (off := 117) 4 154 (px_at td_Re_readSetting 24 rfl) hs3_4 (by decide) (by decide) (by decide) (by decide) ?_
              refine pw_aload_n 0 (px_at td_Re_readSetting 65 rfl) rfl rfl ?_
              refine pw_getf (v := .inr (some (1, (σ2 (6, 0, 0) 0).toNatClampNeg, 0))) (px_at td_Re_readSetting 66 rfl) lf_Re_12 rfl rfl rfl ?_
              refine pw_getf (v := .inr (some (8, (σ2 (6, 0, 0) 0).toNatClampNeg, 14))) (px_at td_Re_readSetting 67 rfl) lf_Re_148 rfl rfl rfl ?_
              refine pw_iconst (v := 4) (px_at td_Re_readSetting 68 rfl) (by decide) ?_
              refine pw_aload_n 0 (px_at td_Re_readSetting 69 rfl) rfl rfl ?_
              refine pw_iconst (v := 0) (px_at td_Re_readSetting 70 rfl) (by decide) ?_
              refine pw_bipush (v := 9) (px_at td_Re_readSetting 71 rfl) (by decide) ?_
              obtain ⟨r14, σ14, hk14, h⟩ := px_b2_e h
              refine pw_cV1 (6, 0, 0) [.inl 0, .inl 9] [.inl 4, .inr (some (8, (σ2 (6, 0, 0) 0).toNatClampNeg, 14))] (px_at td_Re_readSetting 72 rfl) lV_Re_108 rfl rfl rfl (Nat.le_of_ble_eq_true rfl) (by decide) (k_Re_number hk14) ?_
              obtain ⟨σ15, hσ15, h⟩ := px_l_e h
              refine pw_ias (px_at td_Re_readSetting 73 rfl) rfl (px_inL (by decide) px_z4 (by decide)) px_z4 hσ15 ?_
              refine pw_aload_n 0 (px_at td_Re_readSetting 74 rfl) rfl rfl ?_
              refine pw_getf (v := .inr (some (1, (σ15 (6, 0, 0) 0).toNatClampNeg, 0))) (px_at td_Re_readSetting 75 rfl) lf_Re_12 rfl rfl rfl ?_
              refine pw_getf (v := .inr (some (8, (σ15 (6, 0, 0) 0).toNatClampNeg, 14))) (px_at td_Re_readSetting 76 rfl) lf_Re_148 rfl rfl rfl ?_
              refine pw_iconst (v := 5) (px_at td_Re_readSetting 77 rfl) (by decide) ?_
              refine pw_aload_n 0 (px_at td_Re_readSetting 78 rfl) rfl rfl ?_
              refine pw_iconst (v := 1) (px_at td_Re_readSetting 79 rfl) (by decide) ?_
              refine pw_bipush (v := 99) (px_at td_Re_readSetting 80 rfl) (by decide) ?_
              obtain ⟨r16, σ16, hk16, h⟩ := px_b2_e h
              refine pw_cV1 (6, 0, 0) [.inl 1, .inl 99] [.inl 5, .inr (some (8, (σ15 (6, 0, 0) 0).toNatClampNeg, 14))] (px_at td_Re_readSetting 81 rfl) lV_Re_108 rfl rfl rfl (Nat.le_of_ble_eq_true rfl) (by decide) (k_Re_number hk16) ?_
              obtain ⟨σ17, hσ17, h⟩ := px_l_e h
              refine pw_ias (px_at td_Re_readSetting 82 rfl) rfl (px_inL (by decide) px_z5 (by decide)) px_z5 hσ17 ?_
              refine pw_goto 226 (px_at td_Re_readSetting 83 rfl) (by decide) ?_
              obtain rfl := Option.some.inj h
              exact pw_vret (px_at td_Re_readSetting 103 rfl) rfl (Nat.le_refl 0) (Nat.le_refl 0) hR
            · have hd3_4 := trivial
              rcases px_ite h with ⟨hs3_5, h⟩ | ⟨hs3_5, h⟩
              · refine pw_tin (off := 152) 5 189 (px_at td_Re_readSetting 24 rfl) hs3_5 (by decide) (by decide) (by decide) (by decide) ?_
                refine pw_aload_n 0 (px_at td_Re_readSetting 84 rfl) rfl rfl ?_
                refine pw_getf (v := .inr (some (1, (σ2 (6, 0, 0) 0).toNatClampNeg, 0))) (px_at td_Re_readSetting 85 rfl) lf_Re_12 rfl rfl rfl ?_
                refine pw_getf (v := .inr (some (8, (σ2 (6, 0, 0) 0).toNatClampNeg, 14))) (px_at td_Re_readSetting 86 rfl) lf_Re_148 rfl rfl rfl ?_
                refine pw_bipush (v := 6) (px_at td_Re_readSetting 87 rfl) (by decide) ?_
                refine pw_aload_n 0 (px_at td_Re_readSetting 88 rfl) rfl rfl ?_
                refine pw_iconst (v := 1) (px_at td_Re_readSetting 89 rfl) (by decide) ?_
                refine pw_ldc (v := 999999) (px_at td_Re_readSetting 90 rfl) lc_Re_151 ?_
                obtain ⟨r18, σ18, hk18, h⟩ := px_b2_e h
                refine pw_cV1 (6, 0, 0) [.inl 1, .inl 999999] [.inl 6, .inr (some (8, (σ2 (6, 0, 0) 0).toNatClampNeg, 14))] (px_at td_Re_readSetting 91 rfl) lV_Re_108 rfl rfl rfl (Nat.le_of_ble_eq_true rfl) (by decide) (k_Re_number hk18) ?_
                obtain ⟨σ19, hσ19, h⟩ := px_l_e h
                refine pw_ias (px_at td_Re_readSetting 92 rfl) rfl (px_inL (by decide) px_z6 (by decide)) px_z6 hσ19 ?_
                refine pw_goto 226 (px_at td_Re_readSetting 93 rfl) (by decide) ?_
                obtain rfl := Option.some.inj h
                exact pw_vret (px_at td_Re_readSetting 103 rfl) rfl (Nat.le_refl 0) (Nat.le_refl 0) hR
              · have hd3_5 := trivial
                refine pw_tout 209 (px_at td_Re_readSetting 24 rfl) (px_out [0, 1, 2, 3, 4, 5] (by decide) (by simp only [List.forall_mem_cons]; exact ⟨hs3_0, hs3_1, hs3_2, hs3_3, hs3_4, hs3_5, fun _ hm => absurd hm List.not_mem_nil⟩)) (by decide) ?_
                refine pw_aload_n 0 (px_at td_Re_readSetting 94 rfl) rfl rfl ?_
                refine pw_getf (v := .inr (some (1, (σ2 (6, 0, 0) 0).toNatClampNeg, 0))) (px_at td_Re_readSetting 95 rfl) lf_Re_12 rfl rfl rfl ?_
                refine pw_getf (v := .inr (some (8, (σ2 (6, 0, 0) 0).toNatClampNeg, 14))) (px_at td_Re_readSetting 96 rfl) lf_Re_148 rfl rfl rfl ?_
                refine pw_bipush (v := 7) (px_at td_Re_readSetting 97 rfl) (by decide) ?_
                refine pw_aload_n 0 (px_at td_Re_readSetting 98 rfl) rfl rfl ?_
                refine pw_iconst (v := 0) (px_at td_Re_readSetting 99 rfl) (by decide) ?_
                refine pw_ldc (v := 99999) (px_at td_Re_readSetting 100 rfl) lc_Re_124 ?_
                obtain ⟨r4, σ4, hk4, h⟩ := px_b2_e h
                refine pw_cV1 (6, 0, 0) [.inl 0, .inl 99999] [.inl 7, .inr (some (8, (σ2 (6, 0, 0) 0).toNatClampNeg, 14))] (px_at td_Re_readSetting 101 rfl) lV_Re_108 rfl rfl rfl (Nat.le_of_ble_eq_true rfl) (by decide) (k_Re_number hk4) ?_
                obtain ⟨σ5, hσ5, h⟩ := px_l_e h
                refine pw_ias (px_at td_Re_readSetting 102 rfl) rfl (px_inL (by decide) px_z7 (by decide)) px_z7 hσ5 ?_
                obtain rfl := Option.some.inj h
                exact pw_vret (px_at td_Re_readSetting 103 rfl) rfl (Nat.le_refl 0) (Nat.le_refl 0) hR
  · refine pw_if_eq 17 (px_at td_Re_readSetting 6 rfl) (by decide) (fun hn => absurd hn hc21) (fun _ => ?_)
    refine pw_aload_n 0 (px_at td_Re_readSetting 7 rfl) rfl rfl ?_
    refine pw_iconst (v := 3) (px_at td_Re_readSetting 8 rfl) (by decide) ?_
    obtain ⟨σ20, hk20, h⟩ := px_b1_e h
    refine pw_cV0 (6, 0, 0) [.inl 3] [] (px_at td_Re_readSetting 9 rfl) lV_Re_71 rfl rfl rfl (Nat.le_of_ble_eq_true rfl) (by decide) (k_Re_refuse hk20) ?_
    obtain rfl := Option.some.inj h
    exact pw_vret (px_at td_Re_readSetting 10 rfl) rfl (Nat.le_refl 0) (Nat.le_refl 0) hR
theorem k_Re_readSetting {l : Launch} {ids : List pxI} {σ : pxS} {v1 : Int32} {res : pxS} (h : F_Re_readSetting σ v1 = some res) : pm l y_Re_readSetting c_Re_readSetting 2 none (px_R 4) [.inr (some (6, 0, 0)), .inl v1] ids cG σ (px_r none ids cG res) :=
  pm_ofF (by decide +kernel) (Nat.le_of_ble_eq_true rfl) (e_Re_readSetting h ⟨rfl, rfl, rfl, rfl⟩)
/-! Re_toldRail -/
def Re_toldRail_n36 (σ : pxS) (v1 : Int32) : Option (Int32 × pxS) :=
  px_b1 (F_Re_take σ 1) fun σ2 =>
  some ((if v1 < 0 then 0 else v1), σ2)
set_option maxRecDepth 100000 in
theorem Re_toldRail_n36_l {l : Launch} {ids : List pxI} {Rt : Option pxV → List pxI → pxG → pxS → Prop} {σ : pxS} {v1 : Int32} {res : Int32 × pxS} (h : Re_toldRail_n36 σ v1 = some res) (hR : Rt (some (.inl res.1)) ids cG res.2) : pw l (px_R 3) y_Re_toldRail c_Re_toldRail 2 (some .int) 36 [(0, .inr (some (6, 0, 0))), (1, .inl v1)] [] ids cG σ 0 0 Rt := by
  unfold Re_toldRail_n36 at h
  refine pw_aload_n 0 (px_at td_Re_toldRail 18 rfl) rfl rfl ?_
  refine pw_iconst (v := 1) (px_at td_Re_toldRail 19 rfl) (by decide) ?_
  obtain ⟨σ2, hk2, h⟩ := px_b1_e h
  refine pw_cV0 (6, 0, 0) [.inl 1] [] (px_at td_Re_toldRail 20 rfl) lV_Re_86 rfl rfl rfl (Nat.le_of_ble_eq_true rfl) (by decide) (k_Re_take hk2) ?_
  refine pw_iload_n 1 (px_at td_Re_toldRail 21 rfl) rfl rfl ?_
  refine pw_iconst (v := 0) (px_at td_Re_toldRail 22 rfl) (by decide) ?_
  refine pw_mmax (px_at td_Re_toldRail 23 rfl) lm_Re_152 ws_Math_max wi_java_lang_Math wc_Math_max (by decide) (Nat.le_of_ble_eq_true rfl) (Nat.le_refl 0) (Nat.le_refl 0) ?_
  obtain rfl := Option.some.inj h
  exact pw_iret (px_at td_Re_toldRail 24 rfl) rfl (Nat.le_refl 0) (Nat.le_refl 0) hR
def F_Re_toldRail (σ : pxS)  : Option (Int32 × pxS) :=
  px_b1 (F_Pl_find σ (σ (6, 0, 0) 0) (σ (6, 0, 0) 12)) fun r1 =>
  (if (σ (6, 0, 0) 1) = 0 then (if (σ (6, 0, 0) 11) = 1 then (if 0 ≤ r1 then Re_toldRail_n36 σ r1 else px_b1 (F_Re_refuse σ 4) fun σ3 =>
  Re_toldRail_n36 σ3 r1) else Re_toldRail_n36 σ r1) else Re_toldRail_n36 σ r1)
set_option maxRecDepth 100000 in
theorem e_Re_toldRail {l : Launch} {ids : List pxI} {Rt : Option pxV → List pxI → pxG → pxS → Prop} {σ : pxS}  {res : Int32 × pxS} (h : F_Re_toldRail σ  = some res) (hR : Rt (some (.inl res.1)) ids cG res.2) : pw l (px_R 3) y_Re_toldRail c_Re_toldRail 2 (some .int) 0 [(0, .inr (some (6, 0, 0)))] [] ids cG σ 0 0 Rt := by
  unfold F_Re_toldRail at h
  refine pw_aload_n 0 (px_at td_Re_toldRail 0 rfl) rfl rfl ?_
  refine pw_getf (v := .inr (some (1, (σ (6, 0, 0) 0).toNatClampNeg, 0))) (px_at td_Re_toldRail 1 rfl) lf_Re_12 rfl rfl rfl ?_
  refine pw_aload_n 0 (px_at td_Re_toldRail 2 rfl) rfl rfl ?_
  refine pw_getf (v := .inl (σ (6, 0, 0) 12)) (px_at td_Re_toldRail 3 rfl) lf_Re_68 rfl rfl rfl ?_
  obtain ⟨r1, hk1, h⟩ := px_b1_e h
  refine pw_cV1 (1, (σ (6, 0, 0) 0).toNatClampNeg, 0) [.inl (σ (6, 0, 0) 12)] [] (px_at td_Re_toldRail 4 rfl) lV_Re_134 rfl rfl rfl (Nat.le_of_ble_eq_true rfl) (by decide) (k_Pl_find hk1) ?_
  refine pw_istore_n (L' := [(1, .inl r1), (0, .inr (some (6, 0, 0)))]) (px_at td_Re_toldRail 5 rfl) rfl (by decide) rfl ?_
  refine pw_aload_n 1 (px_at td_Re_toldRail 6 rfl) rfl rfl ?_
  refine pw_getf (v := .inl (σ (6, 0, 0) 1)) (px_at td_Re_toldRail 7 rfl) lf_Re_50 rfl rfl rfl ?_
  rcases px_ite h with ⟨hc6, h⟩ | ⟨hc6, h⟩
  · refine pw_if_ne 36 (px_at td_Re_toldRail 8 rfl) (by decide) (fun hn => absurd hc6 hn) (fun _ => ?_)
    refine pw_aload_n 1 (px_at td_Re_toldRail 9 rfl) rfl rfl ?_
    refine pw_getf (v := .inl (σ (6, 0, 0) 11)) (px_at td_Re_toldRail 10 rfl) lf_Re_62 rfl rfl rfl ?_
    refine pw_iconst (v := 1) (px_at td_Re_toldRail 11 rfl) (by decide) ?_
    rcases px_ite h with ⟨hc5, h⟩ | ⟨hc5, h⟩
    · refine pw_icmp_ne 36 (px_at td_Re_toldRail 12 rfl) (by decide) (fun hn => absurd hc5 hn) (fun _ => ?_)
      refine pw_iload_n 0 (px_at td_Re_toldRail 13 rfl) rfl rfl ?_
      rcases px_ite h with ⟨hc4, h⟩ | ⟨hc4, h⟩
      · refine pw_if_ge 36 (px_at td_Re_toldRail 14 rfl) (by decide) (fun _ => ?_) (fun hn => absurd hc4 hn)
        refine pw_L [(0, .inr (some (6, 0, 0))), (1, .inl r1)] [1, 0] rfl ?_
        exact Re_toldRail_n36_l h hR
      · refine pw_if_ge 36 (px_at td_Re_toldRail 14 rfl) (by decide) (fun hn => absurd hn hc4) (fun _ => ?_)
        refine pw_aload_n 1 (px_at td_Re_toldRail 15 rfl) rfl rfl ?_
        refine pw_iconst (v := 4) (px_at td_Re_toldRail 16 rfl) (by decide) ?_
        obtain ⟨σ3, hk3, h⟩ := px_b1_e h
        refine pw_cV0 (6, 0, 0) [.inl 4] [] (px_at td_Re_toldRail 17 rfl) lV_Re_71 rfl rfl rfl (Nat.le_of_ble_eq_true rfl) (by decide) (k_Re_refuse hk3) ?_
        refine pw_L [(0, .inr (some (6, 0, 0))), (1, .inl r1)] [1, 0] rfl ?_
        exact Re_toldRail_n36_l h hR
    · refine pw_icmp_ne 36 (px_at td_Re_toldRail 12 rfl) (by decide) (fun _ => ?_) (fun hn => absurd hn hc5)
      refine pw_L [(0, .inr (some (6, 0, 0))), (1, .inl r1)] [1, 0] rfl ?_
      exact Re_toldRail_n36_l h hR
  · refine pw_if_ne 36 (px_at td_Re_toldRail 8 rfl) (by decide) (fun _ => ?_) (fun hn => absurd hn hc6)
    refine pw_L [(0, .inr (some (6, 0, 0))), (1, .inl r1)] [1, 0] rfl ?_
    exact Re_toldRail_n36_l h hR
theorem k_Re_toldRail {l : Launch} {ids : List pxI} {σ : pxS}  {res : Int32 × pxS} (h : F_Re_toldRail σ  = some res) : pm l y_Re_toldRail c_Re_toldRail 2 (some .int) (px_R 3) [.inr (some (6, 0, 0))] ids cG σ (px_r (some (.inl res.1)) ids cG res.2) :=
  pm_ofF (by decide +kernel) (Nat.le_of_ble_eq_true rfl) (e_Re_toldRail h ⟨rfl, rfl, rfl, rfl⟩)
/-! Re_readStep -/
def Re_readStep_n47 (σ : pxS) (v1 : Int32) (v2 : Int32) : Option (pxS) :=
  px_b2 (F_Re_number σ 1 99) fun r3 σ3 =>
  px_b1 (F_Pl_addStep σ3 (σ3 (6, 0, 0) 0) v1 v2 r3) fun σ4 =>
  some σ4
set_option maxRecDepth 100000 in
theorem Re_readStep_n47_l {l : Launch} {ids : List pxI} {Rt : Option pxV → List pxI → pxG → pxS → Prop} {σ : pxS} {v1 : Int32} {v2 : Int32} {res : pxS} (h : Re_readStep_n47 σ v1 v2 = some res) (hR : Rt none ids cG res) : pw l (px_R 4) y_Re_readStep c_Re_readStep 4 none 47 [(0, .inr (some (6, 0, 0))), (1, .inl v1), (2, .inl v2)] [] ids cG σ 0 0 Rt := by
  unfold Re_readStep_n47 at h
  refine pw_aload_n 0 (px_at td_Re_readStep 25 rfl) rfl rfl ?_
  refine pw_iconst (v := 1) (px_at td_Re_readStep 26 rfl) (by decide) ?_
  refine pw_bipush (v := 99) (px_at td_Re_readStep 27 rfl) (by decide) ?_
  obtain ⟨r3, σ3, hk3, h⟩ := px_b2_e h
  refine pw_cV1 (6, 0, 0) [.inl 1, .inl 99] [] (px_at td_Re_readStep 28 rfl) lV_Re_108 rfl rfl rfl (Nat.le_of_ble_eq_true rfl) (by decide) (k_Re_number hk3) ?_
  refine pw_goto 58 (px_at td_Re_readStep 29 rfl) (by decide) ?_
  refine pw_istore_n (L' := [(3, .inl r3), (0, .inr (some (6, 0, 0))), (1, .inl v1), (2, .inl v2)]) (px_at td_Re_readStep 31 rfl) rfl (by decide) rfl ?_
  refine pw_aload_n 1 (px_at td_Re_readStep 32 rfl) rfl rfl ?_
  refine pw_getf (v := .inr (some (1, (σ3 (6, 0, 0) 0).toNatClampNeg, 0))) (px_at td_Re_readStep 33 rfl) lf_Re_12 rfl rfl rfl ?_
  refine pw_iload_n 2 (px_at td_Re_readStep 34 rfl) rfl rfl ?_
  refine pw_iload_n 3 (px_at td_Re_readStep 35 rfl) rfl rfl ?_
  refine pw_iload_n 0 (px_at td_Re_readStep 36 rfl) rfl rfl ?_
  obtain ⟨σ4, hk4, h⟩ := px_b1_e h
  refine pw_cV0 (1, (σ3 (6, 0, 0) 0).toNatClampNeg, 0) [.inl v1, .inl v2, .inl r3] [] (px_at td_Re_readStep 37 rfl) lV_Re_144 rfl rfl rfl (Nat.le_of_ble_eq_true rfl) (by decide) (k_Pl_addStep hk4) ?_
  obtain rfl := Option.some.inj h
  exact pw_vret (px_at td_Re_readStep 38 rfl) rfl (Nat.le_refl 0) (Nat.le_refl 0) hR
def F_Re_readStep (σ : pxS) (v1 : Int32) : Option (pxS) :=
  (if (σ (1, (σ (6, 0, 0) 0).toNatClampNeg, 0) 2) < 24 then px_b1 (F_Re_advance σ ) fun σ1 =>
  (if v1 = 2 then (if v1 = 2 then Re_readStep_n47 σ1 v1 (-2) else (if v1 = 3 then Re_readStep_n47 σ1 v1 (-2) else px_b1 (F_Pl_addStep σ1 (σ1 (6, 0, 0) 0) v1 (-2) 0) fun σ8 =>
  some σ8)) else px_b2 (F_Re_toldRail σ1 ) fun r2 σ2 =>
  (if v1 = 2 then Re_readStep_n47 σ2 v1 r2 else (if v1 = 3 then Re_readStep_n47 σ2 v1 r2 else px_b1 (F_Pl_addStep σ2 (σ2 (6, 0, 0) 0) v1 r2 0) fun σ5 =>
  some σ5))) else px_b1 (F_Re_refuse σ 2) fun σ12 =>
  some σ12)
set_option maxRecDepth 100000 in
theorem e_Re_readStep {l : Launch} {ids : List pxI} {Rt : Option pxV → List pxI → pxG → pxS → Prop} {σ : pxS} {v1 : Int32} {res : pxS} (h : F_Re_readStep σ v1 = some res) (hR : Rt none ids cG res) : pw l (px_R 4) y_Re_readStep c_Re_readStep 4 none 0 [(0, .inr (some (6, 0, 0))), (1, .inl v1)] [] ids cG σ 0 0 Rt := by
  unfold F_Re_readStep at h
  refine pw_aload_n 0 (px_at td_Re_readStep 0 rfl) rfl rfl ?_
  refine pw_getf (v := .inr (some (1, (σ (6, 0, 0) 0).toNatClampNeg, 0))) (px_at td_Re_readStep 1 rfl) lf_Re_12 rfl rfl rfl ?_
  refine pw_getf (v := .inl (σ (1, (σ (6, 0, 0) 0).toNatClampNeg, 0) 2)) (px_at td_Re_readStep 2 rfl) lf_Re_141 rfl rfl rfl ?_
  refine pw_bipush (v := 24) (px_at td_Re_readStep 3 rfl) (by decide) ?_
  rcases px_ite h with ⟨hc13, h⟩ | ⟨hc13, h⟩
  · refine pw_icmp_lt 18 (px_at td_Re_readStep 4 rfl) (by decide) (fun _ => ?_) (fun hn => absurd hc13 hn)
    refine pw_aload_n 0 (px_at td_Re_readStep 9 rfl) rfl rfl ?_
    obtain ⟨σ1, hk1, h⟩ := px_b1_e h
    refine pw_cV0 (6, 0, 0) [] [] (px_at td_Re_readStep 10 rfl) lV_Re_56 rfl rfl rfl (Nat.le_of_ble_eq_true rfl) (by decide) (k_Re_advance hk1) ?_
    refine pw_iload_n 1 (px_at td_Re_readStep 11 rfl) rfl rfl ?_
    refine pw_iconst (v := 2) (px_at td_Re_readStep 12 rfl) (by decide) ?_
    rcases px_ite h with ⟨hc11, h⟩ | ⟨hc11, h⟩
    · refine pw_icmp_ne 32 (px_at td_Re_readStep 13 rfl) (by decide) (fun hn => absurd hc11 hn) (fun _ => ?_)
      refine pw_bipush (v := (-2)) (px_at td_Re_readStep 14 rfl) (by decide) ?_
      refine pw_goto 36 (px_at td_Re_readStep 15 rfl) (by decide) ?_
      refine pw_istore_n (L' := [(2, .inl (-2)), (0, .inr (some (6, 0, 0))), (1, .inl v1)]) (px_at td_Re_readStep 18 rfl) rfl (by decide) rfl ?_
      refine pw_iload_n 2 (px_at td_Re_readStep 19 rfl) rfl rfl ?_
      refine pw_iconst (v := 2) (px_at td_Re_readStep 20 rfl) (by decide) ?_
      rcases px_ite h with ⟨hc10, h⟩ | ⟨hc10, h⟩
      · refine pw_icmp_eq 47 (px_at td_Re_readStep 21 rfl) (by decide) (fun _ => ?_) (fun hn => absurd hc10 hn)
        refine pw_L [(0, .inr (some (6, 0, 0))), (1, .inl v1), (2, .inl (-2))] [1, 2, 0] rfl ?_
        exact Re_readStep_n47_l h hR
      · refine pw_icmp_eq 47 (px_at td_Re_readStep 21 rfl) (by decide) (fun hn => absurd hn hc10) (fun _ => ?_)
        refine pw_iload_n 2 (px_at td_Re_readStep 22 rfl) rfl rfl ?_
        refine pw_iconst (v := 3) (px_at td_Re_readStep 23 rfl) (by decide) ?_
        rcases px_ite h with ⟨hc9, h⟩ | ⟨hc9, h⟩
        · refine pw_icmp_ne 57 (px_at td_Re_readStep 24 rfl) (by decide) (fun hn => absurd hc9 hn) (fun _ => ?_)
          refine pw_L [(0, .inr (some (6, 0, 0))), (1, .inl v1), (2, .inl (-2))] [1, 2, 0] rfl ?_
          exact Re_readStep_n47_l h hR
        · refine pw_icmp_ne 57 (px_at td_Re_readStep 24 rfl) (by decide) (fun _ => ?_) (fun hn => absurd hn hc9)
          refine pw_iconst (v := 0) (px_at td_Re_readStep 30 rfl) (by decide) ?_
          refine pw_istore_n (L' := [(3, .inl 0), (2, .inl (-2)), (0, .inr (some (6, 0, 0))), (1, .inl v1)]) (px_at td_Re_readStep 31 rfl) rfl (by decide) rfl ?_
          refine pw_aload_n 2 (px_at td_Re_readStep 32 rfl) rfl rfl ?_
          refine pw_getf (v := .inr (some (1, (σ1 (6, 0, 0) 0).toNatClampNeg, 0))) (px_at td_Re_readStep 33 rfl) lf_Re_12 rfl rfl rfl ?_
          refine pw_iload_n 3 (px_at td_Re_readStep 34 rfl) rfl rfl ?_
          refine pw_iload_n 1 (px_at td_Re_readStep 35 rfl) rfl rfl ?_
          refine pw_iload_n 0 (px_at td_Re_readStep 36 rfl) rfl rfl ?_
          obtain ⟨σ8, hk8, h⟩ := px_b1_e h
          refine pw_cV0 (1, (σ1 (6, 0, 0) 0).toNatClampNeg, 0) [.inl v1, .inl (-2), .inl 0] [] (px_at td_Re_readStep 37 rfl) lV_Re_144 rfl rfl rfl (Nat.le_of_ble_eq_true rfl) (by decide) (k_Pl_addStep hk8) ?_
          obtain rfl := Option.some.inj h
          exact pw_vret (px_at td_Re_readStep 38 rfl) rfl (Nat.le_refl 0) (Nat.le_refl 0) hR
    · refine pw_icmp_ne 32 (px_at td_Re_readStep 13 rfl) (by decide) (fun _ => ?_) (fun hn => absurd hn hc11)
      refine pw_aload_n 0 (px_at td_Re_readStep 16 rfl) rfl rfl ?_
      obtain ⟨r2, σ2, hk2, h⟩ := px_b2_e h
      refine pw_cV1 (6, 0, 0) [] [] (px_at td_Re_readStep 17 rfl) lV_Re_131 rfl rfl rfl (Nat.le_of_ble_eq_true rfl) (by decide) (k_Re_toldRail hk2) ?_
      refine pw_istore_n (L' := [(2, .inl r2), (0, .inr (some (6, 0, 0))), (1, .inl v1)]) (px_at td_Re_readStep 18 rfl) rfl (by decide) rfl ?_
      refine pw_iload_n 2 (px_at td_Re_readStep 19 rfl) rfl rfl ?_
      refine pw_iconst (v := 2) (px_at td_Re_readStep 20 rfl) (by decide) ?_
      rcases px_ite h with ⟨hc7, h⟩ | ⟨hc7, h⟩
      · refine pw_icmp_eq 47 (px_at td_Re_readStep 21 rfl) (by decide) (fun _ => ?_) (fun hn => absurd hc7 hn)
        refine pw_L [(0, .inr (some (6, 0, 0))), (1, .inl v1), (2, .inl r2)] [1, 2, 0] rfl ?_
        exact Re_readStep_n47_l h hR
      · refine pw_icmp_eq 47 (px_at td_Re_readStep 21 rfl) (by decide) (fun hn => absurd hn hc7) (fun _ => ?_)
        refine pw_iload_n 2 (px_at td_Re_readStep 22 rfl) rfl rfl ?_
        refine pw_iconst (v := 3) (px_at td_Re_readStep 23 rfl) (by decide) ?_
        rcases px_ite h with ⟨hc6, h⟩ | ⟨hc6, h⟩
        · refine pw_icmp_ne 57 (px_at td_Re_readStep 24 rfl) (by decide) (fun hn => absurd hc6 hn) (fun _ => ?_)
          refine pw_L [(0, .inr (some (6, 0, 0))), (1, .inl v1), (2, .inl r2)] [1, 2, 0] rfl ?_
          exact Re_readStep_n47_l h hR
        · refine pw_icmp_ne 57 (px_at td_Re_readStep 24 rfl) (by decide) (fun _ => ?_) (fun hn => absurd hn hc6)
          refine pw_iconst (v := 0) (px_at td_Re_readStep 30 rfl) (by decide) ?_
          refine pw_istore_n (L' := [(3, .inl 0), (2, .inl r2), (0, .inr (some (6, 0, 0))), (1, .inl v1)]) (px_at td_Re_readStep 31 rfl) rfl (by decide) rfl ?_
          refine pw_aload_n 2 (px_at td_Re_readStep 32 rfl) rfl rfl ?_
          refine pw_getf (v := .inr (some (1, (σ2 (6, 0, 0) 0).toNatClampNeg, 0))) (px_at td_Re_readStep 33 rfl) lf_Re_12 rfl rfl rfl ?_
          refine pw_iload_n 3 (px_at td_Re_readStep 34 rfl) rfl rfl ?_
          refine pw_iload_n 1 (px_at td_Re_readStep 35 rfl) rfl rfl ?_
          refine pw_iload_n 0 (px_at td_Re_readStep 36 rfl) rfl rfl ?_
          obtain ⟨σ5, hk5, h⟩ := px_b1_e h
          refine pw_cV0 (1, (σ2 (6, 0, 0) 0).toNatClampNeg, 0) [.inl v1, .inl r2, .inl 0] [] (px_at td_Re_readStep 37 rfl) lV_Re_144 rfl rfl rfl (Nat.le_of_ble_eq_true rfl) (by decide) (k_Pl_addStep hk5) ?_
          obtain rfl := Option.some.inj h
          exact pw_vret (px_at td_Re_readStep 38 rfl) rfl (Nat.le_refl 0) (Nat.le_refl 0) hR
  · refine pw_icmp_lt 18 (px_at td_Re_readStep 4 rfl) (by decide) (fun hn => absurd hn hc13) (fun _ => ?_)
    refine pw_aload_n 0 (px_at td_Re_readStep 5 rfl) rfl rfl ?_
    refine pw_iconst (v := 2) (px_at td_Re_readStep 6 rfl) (by decide) ?_
    obtain ⟨σ12, hk12, h⟩ := px_b1_e h
    refine pw_cV0 (6, 0, 0) [.inl 2] [] (px_at td_Re_readStep 7 rfl) lV_Re_71 rfl rfl rfl (Nat.le_of_ble_eq_true rfl) (by decide) (k_Re_refuse hk12) ?_
    obtain rfl := Option.some.inj h
    exact pw_vret (px_at td_Re_readStep 8 rfl) rfl (Nat.le_refl 0) (Nat.le_refl 0) hR
theorem k_Re_readStep {l : Launch} {ids : List pxI} {σ : pxS} {v1 : Int32} {res : pxS} (h : F_Re_readStep σ v1 = some res) : pm l y_Re_readStep c_Re_readStep 4 none (px_R 4) [.inr (some (6, 0, 0)), .inl v1] ids cG σ (px_r none ids cG res) :=
  pm_ofF (by decide +kernel) (Nat.le_of_ble_eq_true rfl) (e_Re_readStep h ⟨rfl, rfl, rfl, rfl⟩)
/-! Re_readNeed -/
def Re_readNeed_n100 (σ : pxS) (v1 : Int32) : Option (pxS) :=
  px_b2 (F_Re_toldRail σ ) fun r3 σ3 =>
  px_b1 (F_Pl_addNeed σ3 (σ (6, 0, 0) 0) v1 r3) fun σ4 =>
  some σ4
set_option maxRecDepth 100000 in
theorem Re_readNeed_n100_l {l : Launch} {ids : List pxI} {Rt : Option pxV → List pxI → pxG → pxS → Prop} {σ : pxS} {v1 : Int32} {res : pxS} (h : Re_readNeed_n100 σ v1 = some res) (hR : Rt none ids cG res) : pw l (px_R 4) y_Re_readNeed c_Re_readNeed 3 none 100 [(0, .inr (some (6, 0, 0))), (1, .inl v1)] [] ids cG σ 0 0 Rt := by
  unfold Re_readNeed_n100 at h
  refine pw_aload_n 0 (px_at td_Re_readNeed 53 rfl) rfl rfl ?_
  refine pw_getf (v := .inr (some (1, (σ (6, 0, 0) 0).toNatClampNeg, 0))) (px_at td_Re_readNeed 54 rfl) lf_Re_12 rfl rfl rfl ?_
  refine pw_iload_n 1 (px_at td_Re_readNeed 55 rfl) rfl rfl ?_
  refine pw_aload_n 0 (px_at td_Re_readNeed 56 rfl) rfl rfl ?_
  obtain ⟨r3, σ3, hk3, h⟩ := px_b2_e h
  refine pw_cV1 (6, 0, 0) [] [.inl v1, .inr (some (1, (σ (6, 0, 0) 0).toNatClampNeg, 0))] (px_at td_Re_readNeed 57 rfl) lV_Re_131 rfl rfl rfl (Nat.le_of_ble_eq_true rfl) (by decide) (k_Re_toldRail hk3) ?_
  obtain ⟨σ4, hk4, h⟩ := px_b1_e h
  refine pw_cV0 (1, (σ (6, 0, 0) 0).toNatClampNeg, 0) [.inl v1, .inl r3] [] (px_at td_Re_readNeed 58 rfl) lV_Re_137 rfl rfl rfl (Nat.le_of_ble_eq_true rfl) (by decide) (k_Pl_addNeed hk4) ?_
  obtain rfl := Option.some.inj h
  exact pw_vret (px_at td_Re_readNeed 59 rfl) rfl (Nat.le_refl 0) (Nat.le_refl 0) hR
def F_Re_readNeed (σ : pxS)  : Option (pxS) :=
  (if (σ (1, (σ (6, 0, 0) 0).toNatClampNeg, 0) 1) < 20 then px_b1 (F_Re_advance σ ) fun σ1 =>
  px_b2 (F_Re_toldRail σ1 ) fun r2 σ2 =>
  (if (σ2 (6, 0, 0) 1) = 0 then (if (σ2 (6, 0, 0) 11) = 1 then px_b1 (F_Pl_find σ2 (σ2 (6, 0, 0) 0) (σ2 (6, 0, 0) 12)) fun r7 =>
  (if r7 = r2 then px_b1 (F_Re_refuse σ2 2) fun σ12 =>
  some σ12 else (if r7 < 0 then Re_readNeed_n100 σ2 r2 else px_gd r2 12 ((if (((σ2 (8, (σ2 (6, 0, 0) 0).toNatClampNeg, 7) r2.toNatClampNeg) >>> (r7 &&& 31)) &&& 1) = 0 then Re_readNeed_n100 σ2 r2 else px_b1 (F_Re_refuse σ2 3) fun σ9 =>
  some σ9)))) else (if (-1) = r2 then px_b1 (F_Re_refuse σ2 2) fun σ5 =>
  some σ5 else Re_readNeed_n100 σ2 r2)) else some σ2) else px_b1 (F_Re_refuse σ 2) fun σ16 =>
  some σ16)
set_option maxRecDepth 100000 in
theorem e_Re_readNeed {l : Launch} {ids : List pxI} {Rt : Option pxV → List pxI → pxG → pxS → Prop} {σ : pxS}  {res : pxS} (h : F_Re_readNeed σ  = some res) (hR : Rt none ids cG res) : pw l (px_R 4) y_Re_readNeed c_Re_readNeed 3 none 0 [(0, .inr (some (6, 0, 0)))] [] ids cG σ 0 0 Rt := by
  unfold F_Re_readNeed at h
  refine pw_aload_n 0 (px_at td_Re_readNeed 0 rfl) rfl rfl ?_
  refine pw_getf (v := .inr (some (1, (σ (6, 0, 0) 0).toNatClampNeg, 0))) (px_at td_Re_readNeed 1 rfl) lf_Re_12 rfl rfl rfl ?_
  refine pw_getf (v := .inl (σ (1, (σ (6, 0, 0) 0).toNatClampNeg, 0) 1)) (px_at td_Re_readNeed 2 rfl) lf_Re_128 rfl rfl rfl ?_
  refine pw_bipush (v := 20) (px_at td_Re_readNeed 3 rfl) (by decide) ?_
  rcases px_ite h with ⟨hc17, h⟩ | ⟨hc17, h⟩
  · refine pw_icmp_lt 18 (px_at td_Re_readNeed 4 rfl) (by decide) (fun _ => ?_) (fun hn => absurd hc17 hn)
    refine pw_aload_n 0 (px_at td_Re_readNeed 9 rfl) rfl rfl ?_
    obtain ⟨σ1, hk1, h⟩ := px_b1_e h
    refine pw_cV0 (6, 0, 0) [] [] (px_at td_Re_readNeed 10 rfl) lV_Re_56 rfl rfl rfl (Nat.le_of_ble_eq_true rfl) (by decide) (k_Re_advance hk1) ?_
    refine pw_aload_n 0 (px_at td_Re_readNeed 11 rfl) rfl rfl ?_
    obtain ⟨r2, σ2, hk2, h⟩ := px_b2_e h
    refine pw_cV1 (6, 0, 0) [] [] (px_at td_Re_readNeed 12 rfl) lV_Re_131 rfl rfl rfl (Nat.le_of_ble_eq_true rfl) (by decide) (k_Re_toldRail hk2) ?_
    refine pw_istore_n (L' := [(1, .inl r2), (0, .inr (some (6, 0, 0)))]) (px_at td_Re_readNeed 13 rfl) rfl (by decide) rfl ?_
    refine pw_aload_n 1 (px_at td_Re_readNeed 14 rfl) rfl rfl ?_
    refine pw_getf (v := .inl (σ2 (6, 0, 0) 1)) (px_at td_Re_readNeed 15 rfl) lf_Re_50 rfl rfl rfl ?_
    rcases px_ite h with ⟨hc15, h⟩ | ⟨hc15, h⟩
    · refine pw_if_eq 35 (px_at td_Re_readNeed 16 rfl) (by decide) (fun _ => ?_) (fun hn => absurd hc15 hn)
      refine pw_aload_n 1 (px_at td_Re_readNeed 18 rfl) rfl rfl ?_
      refine pw_getf (v := .inl (σ2 (6, 0, 0) 11)) (px_at td_Re_readNeed 19 rfl) lf_Re_62 rfl rfl rfl ?_
      refine pw_iconst (v := 1) (px_at td_Re_readNeed 20 rfl) (by decide) ?_
      rcases px_ite h with ⟨hc14, h⟩ | ⟨hc14, h⟩
      · refine pw_icmp_ne 57 (px_at td_Re_readNeed 21 rfl) (by decide) (fun hn => absurd hc14 hn) (fun _ => ?_)
        refine pw_aload_n 1 (px_at td_Re_readNeed 22 rfl) rfl rfl ?_
        refine pw_getf (v := .inr (some (1, (σ2 (6, 0, 0) 0).toNatClampNeg, 0))) (px_at td_Re_readNeed 23 rfl) lf_Re_12 rfl rfl rfl ?_
        refine pw_aload_n 1 (px_at td_Re_readNeed 24 rfl) rfl rfl ?_
        refine pw_getf (v := .inl (σ2 (6, 0, 0) 12)) (px_at td_Re_readNeed 25 rfl) lf_Re_68 rfl rfl rfl ?_
        obtain ⟨r7, hk7, h⟩ := px_b1_e h
        refine pw_cV1 (1, (σ2 (6, 0, 0) 0).toNatClampNeg, 0) [.inl (σ2 (6, 0, 0) 12)] [] (px_at td_Re_readNeed 26 rfl) lV_Re_134 rfl rfl rfl (Nat.le_of_ble_eq_true rfl) (by decide) (k_Pl_find hk7) ?_
        refine pw_goto 58 (px_at td_Re_readNeed 27 rfl) (by decide) ?_
        refine pw_istore_n (L' := [(2, .inl r7), (1, .inl r2), (0, .inr (some (6, 0, 0)))]) (px_at td_Re_readNeed 29 rfl) rfl (by decide) rfl ?_
        refine pw_iload_n 0 (px_at td_Re_readNeed 30 rfl) rfl rfl ?_
        refine pw_iload_n 1 (px_at td_Re_readNeed 31 rfl) rfl rfl ?_
        rcases px_ite h with ⟨hc13, h⟩ | ⟨hc13, h⟩
        · refine pw_icmp_ne 72 (px_at td_Re_readNeed 32 rfl) (by decide) (fun hn => absurd hc13 hn) (fun _ => ?_)
          refine pw_aload_n 2 (px_at td_Re_readNeed 33 rfl) rfl rfl ?_
          refine pw_iconst (v := 2) (px_at td_Re_readNeed 34 rfl) (by decide) ?_
          obtain ⟨σ12, hk12, h⟩ := px_b1_e h
          refine pw_cV0 (6, 0, 0) [.inl 2] [] (px_at td_Re_readNeed 35 rfl) lV_Re_71 rfl rfl rfl (Nat.le_of_ble_eq_true rfl) (by decide) (k_Re_refuse hk12) ?_
          refine pw_goto 112 (px_at td_Re_readNeed 36 rfl) (by decide) ?_
          obtain rfl := Option.some.inj h
          exact pw_vret (px_at td_Re_readNeed 59 rfl) rfl (Nat.le_refl 0) (Nat.le_refl 0) hR
        · refine pw_icmp_ne 72 (px_at td_Re_readNeed 32 rfl) (by decide) (fun _ => ?_) (fun hn => absurd hn hc13)
          refine pw_iload_n 0 (px_at td_Re_readNeed 37 rfl) rfl rfl ?_
          rcases px_ite h with ⟨hc11, h⟩ | ⟨hc11, h⟩
          · refine pw_if_lt 100 (px_at td_Re_readNeed 38 rfl) (by decide) (fun _ => ?_) (fun hn => absurd hc11 hn)
            refine pw_L [(0, .inr (some (6, 0, 0))), (1, .inl r2)] [2, 1] rfl ?_
            exact Re_readNeed_n100_l h hR
          · refine pw_if_lt 100 (px_at td_Re_readNeed 38 rfl) (by decide) (fun hn => absurd hn hc11) (fun _ => ?_)
            refine pw_aload_n 2 (px_at td_Re_readNeed 39 rfl) rfl rfl ?_
            refine pw_getf (v := .inr (some (1, (σ2 (6, 0, 0) 0).toNatClampNeg, 0))) (px_at td_Re_readNeed 40 rfl) lf_Re_12 rfl rfl rfl ?_
            refine pw_getf (v := .inr (some (8, (σ2 (6, 0, 0) 0).toNatClampNeg, 7))) (px_at td_Re_readNeed 41 rfl) lf_Re_125 rfl rfl rfl ?_
            refine pw_iload_n 1 (px_at td_Re_readNeed 42 rfl) rfl rfl ?_
            obtain ⟨hi8, h⟩ := px_gd_e h
            refine pw_ial (px_at td_Re_readNeed 43 rfl) rfl hi8 rfl ?_
            refine pw_iload_n 0 (px_at td_Re_readNeed 44 rfl) rfl rfl ?_
            refine pw_ishr (px_at td_Re_readNeed 45 rfl) ?_
            refine pw_iconst (v := 1) (px_at td_Re_readNeed 46 rfl) (by decide) ?_
            refine pw_iand (px_at td_Re_readNeed 47 rfl) ?_
            rcases px_ite h with ⟨hc10, h⟩ | ⟨hc10, h⟩
            · refine pw_if_eq 100 (px_at td_Re_readNeed 48 rfl) (by decide) (fun _ => ?_) (fun hn => absurd hc10 hn)
              refine pw_L [(0, .inr (some (6, 0, 0))), (1, .inl r2)] [2, 1] rfl ?_
              exact Re_readNeed_n100_l h hR
            · refine pw_if_eq 100 (px_at td_Re_readNeed 48 rfl) (by decide) (fun hn => absurd hn hc10) (fun _ => ?_)
              refine pw_aload_n 2 (px_at td_Re_readNeed 49 rfl) rfl rfl ?_
              refine pw_iconst (v := 3) (px_at td_Re_readNeed 50 rfl) (by decide) ?_
              obtain ⟨σ9, hk9, h⟩ := px_b1_e h
              refine pw_cV0 (6, 0, 0) [.inl 3] [] (px_at td_Re_readNeed 51 rfl) lV_Re_71 rfl rfl rfl (Nat.le_of_ble_eq_true rfl) (by decide) (k_Re_refuse hk9) ?_
              refine pw_goto 112 (px_at td_Re_readNeed 52 rfl) (by decide) ?_
              obtain rfl := Option.some.inj h
              exact pw_vret (px_at td_Re_readNeed 59 rfl) rfl (Nat.le_refl 0) (Nat.le_refl 0) hR
      · refine pw_icmp_ne 57 (px_at td_Re_readNeed 21 rfl) (by decide) (fun _ => ?_) (fun hn => absurd hn hc14)
        refine pw_iconst (v := (-1)) (px_at td_Re_readNeed 28 rfl) (by decide) ?_
        refine pw_istore_n (L' := [(2, .inl (-1)), (1, .inl r2), (0, .inr (some (6, 0, 0)))]) (px_at td_Re_readNeed 29 rfl) rfl (by decide) rfl ?_
        refine pw_iload_n 0 (px_at td_Re_readNeed 30 rfl) rfl rfl ?_
        refine pw_iload_n 1 (px_at td_Re_readNeed 31 rfl) rfl rfl ?_
        rcases px_ite h with ⟨hc6, h⟩ | ⟨hc6, h⟩
        · refine pw_icmp_ne 72 (px_at td_Re_readNeed 32 rfl) (by decide) (fun hn => absurd hc6 hn) (fun _ => ?_)
          refine pw_aload_n 2 (px_at td_Re_readNeed 33 rfl) rfl rfl ?_
          refine pw_iconst (v := 2) (px_at td_Re_readNeed 34 rfl) (by decide) ?_
          obtain ⟨σ5, hk5, h⟩ := px_b1_e h
          refine pw_cV0 (6, 0, 0) [.inl 2] [] (px_at td_Re_readNeed 35 rfl) lV_Re_71 rfl rfl rfl (Nat.le_of_ble_eq_true rfl) (by decide) (k_Re_refuse hk5) ?_
          refine pw_goto 112 (px_at td_Re_readNeed 36 rfl) (by decide) ?_
          obtain rfl := Option.some.inj h
          exact pw_vret (px_at td_Re_readNeed 59 rfl) rfl (Nat.le_refl 0) (Nat.le_refl 0) hR
        · refine pw_icmp_ne 72 (px_at td_Re_readNeed 32 rfl) (by decide) (fun _ => ?_) (fun hn => absurd hn hc6)
          refine pw_iload_n 0 (px_at td_Re_readNeed 37 rfl) rfl rfl ?_
          refine pw_if_lt 100 (px_at td_Re_readNeed 38 rfl) (by decide) (fun hn => ?_) (fun hn => absurd hn (by decide))
          refine pw_L [(0, .inr (some (6, 0, 0))), (1, .inl r2)] [2, 1] rfl ?_
          exact Re_readNeed_n100_l h hR
    · refine pw_if_eq 35 (px_at td_Re_readNeed 16 rfl) (by decide) (fun hn => absurd hn hc15) (fun _ => ?_)
      obtain rfl := Option.some.inj h
      exact pw_vret (px_at td_Re_readNeed 17 rfl) rfl (Nat.le_refl 0) (Nat.le_refl 0) hR
  · refine pw_icmp_lt 18 (px_at td_Re_readNeed 4 rfl) (by decide) (fun hn => absurd hn hc17) (fun _ => ?_)
    refine pw_aload_n 0 (px_at td_Re_readNeed 5 rfl) rfl rfl ?_
    refine pw_iconst (v := 2) (px_at td_Re_readNeed 6 rfl) (by decide) ?_
    obtain ⟨σ16, hk16, h⟩ := px_b1_e h
    refine pw_cV0 (6, 0, 0) [.inl 2] [] (px_at td_Re_readNeed 7 rfl) lV_Re_71 rfl rfl rfl (Nat.le_of_ble_eq_true rfl) (by decide) (k_Re_refuse hk16) ?_
    obtain rfl := Option.some.inj h
    exact pw_vret (px_at td_Re_readNeed 8 rfl) rfl (Nat.le_refl 0) (Nat.le_refl 0) hR
theorem k_Re_readNeed {l : Launch} {ids : List pxI} {σ : pxS}  {res : pxS} (h : F_Re_readNeed σ  = some res) : pm l y_Re_readNeed c_Re_readNeed 3 none (px_R 4) [.inr (some (6, 0, 0))] ids cG σ (px_r none ids cG res) :=
  pm_ofF (by decide +kernel) (Nat.le_of_ble_eq_true rfl) (e_Re_readNeed h ⟨rfl, rfl, rfl, rfl⟩)
/-! Re_freshName -/
def Re_freshName_n36 (σ : pxS) (v1 : Int32) : Option (Int32 × pxS) :=
  px_b1 (F_Re_take σ 1) fun σ1 =>
  some (v1, σ1)
set_option maxRecDepth 100000 in
theorem Re_freshName_n36_l {l : Launch} {ids : List pxI} {Rt : Option pxV → List pxI → pxG → pxS → Prop} {σ : pxS} {v1 : Int32} {res : Int32 × pxS} (h : Re_freshName_n36 σ v1 = some res) (hR : Rt (some (.inl res.1)) ids cG res.2) : pw l (px_R 3) y_Re_freshName c_Re_freshName 2 (some .int) 36 [(0, .inr (some (6, 0, 0))), (1, .inl v1)] [] ids cG σ 0 0 Rt := by
  unfold Re_freshName_n36 at h
  refine pw_aload_n 0 (px_at td_Re_freshName 18 rfl) rfl rfl ?_
  refine pw_iconst (v := 1) (px_at td_Re_freshName 19 rfl) (by decide) ?_
  obtain ⟨σ1, hk1, h⟩ := px_b1_e h
  refine pw_cV0 (6, 0, 0) [.inl 1] [] (px_at td_Re_freshName 20 rfl) lV_Re_86 rfl rfl rfl (Nat.le_of_ble_eq_true rfl) (by decide) (k_Re_take hk1) ?_
  refine pw_iload_n 1 (px_at td_Re_freshName 21 rfl) rfl rfl ?_
  obtain rfl := Option.some.inj h
  exact pw_iret (px_at td_Re_freshName 22 rfl) rfl (Nat.le_refl 0) (Nat.le_refl 0) hR
def F_Re_freshName (σ : pxS)  : Option (Int32 × pxS) :=
  (if (σ (6, 0, 0) 1) = 0 then (if (σ (6, 0, 0) 11) = 1 then px_b1 (F_Pl_find σ (σ (6, 0, 0) 0) (σ (6, 0, 0) 12)) fun r2 =>
  (if r2 < 0 then Re_freshName_n36 σ (σ (6, 0, 0) 12) else px_b1 (F_Re_refuse σ 3) fun σ3 =>
  Re_freshName_n36 σ3 (σ (6, 0, 0) 12)) else Re_freshName_n36 σ (σ (6, 0, 0) 12)) else Re_freshName_n36 σ (σ (6, 0, 0) 12))
set_option maxRecDepth 100000 in
theorem e_Re_freshName {l : Launch} {ids : List pxI} {Rt : Option pxV → List pxI → pxG → pxS → Prop} {σ : pxS}  {res : Int32 × pxS} (h : F_Re_freshName σ  = some res) (hR : Rt (some (.inl res.1)) ids cG res.2) : pw l (px_R 3) y_Re_freshName c_Re_freshName 2 (some .int) 0 [(0, .inr (some (6, 0, 0)))] [] ids cG σ 0 0 Rt := by
  unfold F_Re_freshName at h
  refine pw_aload_n 0 (px_at td_Re_freshName 0 rfl) rfl rfl ?_
  refine pw_getf (v := .inl (σ (6, 0, 0) 12)) (px_at td_Re_freshName 1 rfl) lf_Re_68 rfl rfl rfl ?_
  refine pw_istore_n (L' := [(1, .inl (σ (6, 0, 0) 12)), (0, .inr (some (6, 0, 0)))]) (px_at td_Re_freshName 2 rfl) rfl (by decide) rfl ?_
  refine pw_aload_n 1 (px_at td_Re_freshName 3 rfl) rfl rfl ?_
  refine pw_getf (v := .inl (σ (6, 0, 0) 1)) (px_at td_Re_freshName 4 rfl) lf_Re_50 rfl rfl rfl ?_
  rcases px_ite h with ⟨hc6, h⟩ | ⟨hc6, h⟩
  · refine pw_if_ne 36 (px_at td_Re_freshName 5 rfl) (by decide) (fun hn => absurd hc6 hn) (fun _ => ?_)
    refine pw_aload_n 1 (px_at td_Re_freshName 6 rfl) rfl rfl ?_
    refine pw_getf (v := .inl (σ (6, 0, 0) 11)) (px_at td_Re_freshName 7 rfl) lf_Re_62 rfl rfl rfl ?_
    refine pw_iconst (v := 1) (px_at td_Re_freshName 8 rfl) (by decide) ?_
    rcases px_ite h with ⟨hc5, h⟩ | ⟨hc5, h⟩
    · refine pw_icmp_ne 36 (px_at td_Re_freshName 9 rfl) (by decide) (fun hn => absurd hc5 hn) (fun _ => ?_)
      refine pw_aload_n 1 (px_at td_Re_freshName 10 rfl) rfl rfl ?_
      refine pw_getf (v := .inr (some (1, (σ (6, 0, 0) 0).toNatClampNeg, 0))) (px_at td_Re_freshName 11 rfl) lf_Re_12 rfl rfl rfl ?_
      refine pw_iload_n 0 (px_at td_Re_freshName 12 rfl) rfl rfl ?_
      obtain ⟨r2, hk2, h⟩ := px_b1_e h
      refine pw_cV1 (1, (σ (6, 0, 0) 0).toNatClampNeg, 0) [.inl (σ (6, 0, 0) 12)] [] (px_at td_Re_freshName 13 rfl) lV_Re_134 rfl rfl rfl (Nat.le_of_ble_eq_true rfl) (by decide) (k_Pl_find hk2) ?_
      rcases px_ite h with ⟨hc4, h⟩ | ⟨hc4, h⟩
      · refine pw_if_lt 36 (px_at td_Re_freshName 14 rfl) (by decide) (fun _ => ?_) (fun hn => absurd hc4 hn)
        refine pw_L [(0, .inr (some (6, 0, 0))), (1, .inl (σ (6, 0, 0) 12))] [1, 0] rfl ?_
        exact Re_freshName_n36_l h hR
      · refine pw_if_lt 36 (px_at td_Re_freshName 14 rfl) (by decide) (fun hn => absurd hn hc4) (fun _ => ?_)
        refine pw_aload_n 1 (px_at td_Re_freshName 15 rfl) rfl rfl ?_
        refine pw_iconst (v := 3) (px_at td_Re_freshName 16 rfl) (by decide) ?_
        obtain ⟨σ3, hk3, h⟩ := px_b1_e h
        refine pw_cV0 (6, 0, 0) [.inl 3] [] (px_at td_Re_freshName 17 rfl) lV_Re_71 rfl rfl rfl (Nat.le_of_ble_eq_true rfl) (by decide) (k_Re_refuse hk3) ?_
        refine pw_L [(0, .inr (some (6, 0, 0))), (1, .inl (σ (6, 0, 0) 12))] [1, 0] rfl ?_
        exact Re_freshName_n36_l h hR
    · refine pw_icmp_ne 36 (px_at td_Re_freshName 9 rfl) (by decide) (fun _ => ?_) (fun hn => absurd hn hc5)
      refine pw_L [(0, .inr (some (6, 0, 0))), (1, .inl (σ (6, 0, 0) 12))] [1, 0] rfl ?_
      exact Re_freshName_n36_l h hR
  · refine pw_if_ne 36 (px_at td_Re_freshName 5 rfl) (by decide) (fun _ => ?_) (fun hn => absurd hn hc6)
    refine pw_L [(0, .inr (some (6, 0, 0))), (1, .inl (σ (6, 0, 0) 12))] [1, 0] rfl ?_
    exact Re_freshName_n36_l h hR
theorem k_Re_freshName {l : Launch} {ids : List pxI} {σ : pxS}  {res : Int32 × pxS} (h : F_Re_freshName σ  = some res) : pm l y_Re_freshName c_Re_freshName 2 (some .int) (px_R 3) [.inr (some (6, 0, 0))] ids cG σ (px_r (some (.inl res.1)) ids cG res.2) :=
  pm_ofF (by decide +kernel) (Nat.le_of_ble_eq_true rfl) (e_Re_freshName h ⟨rfl, rfl, rfl, rfl⟩)
/-! Re_parentOrSource -/
def Re_parentOrSource_n25 (σ : pxS)  : Option (Int32 × pxS) :=
  px_b2 (F_Re_toldRail σ ) fun r1 σ1 =>
  some (r1, σ1)
set_option maxRecDepth 100000 in
theorem Re_parentOrSource_n25_l {l : Launch} {ids : List pxI} {Rt : Option pxV → List pxI → pxG → pxS → Prop} {σ : pxS}  {res : Int32 × pxS} (h : Re_parentOrSource_n25 σ  = some res) (hR : Rt (some (.inl res.1)) ids cG res.2) : pw l (px_R 4) y_Re_parentOrSource c_Re_parentOrSource 1 (some .int) 25 [(0, .inr (some (6, 0, 0)))] [] ids cG σ 0 0 Rt := by
  unfold Re_parentOrSource_n25 at h
  refine pw_aload_n 0 (px_at td_Re_parentOrSource 13 rfl) rfl rfl ?_
  obtain ⟨r1, σ1, hk1, h⟩ := px_b2_e h
  refine pw_cV1 (6, 0, 0) [] [] (px_at td_Re_parentOrSource 14 rfl) lV_Re_131 rfl rfl rfl (Nat.le_of_ble_eq_true rfl) (by decide) (k_Re_toldRail hk1) ?_
  obtain rfl := Option.some.inj h
  exact pw_iret (px_at td_Re_parentOrSource 15 rfl) rfl (Nat.le_refl 0) (Nat.le_refl 0) hR
def F_Re_parentOrSource (σ : pxS)  : Option (Int32 × pxS) :=
  (if (σ (6, 0, 0) 11) = 2 then (if (σ (6, 0, 0) 12) = 13 then px_b1 (F_Re_take σ 2) fun σ2 =>
  some ((-2), σ2) else Re_parentOrSource_n25 σ ) else Re_parentOrSource_n25 σ )
set_option maxRecDepth 100000 in
theorem e_Re_parentOrSource {l : Launch} {ids : List pxI} {Rt : Option pxV → List pxI → pxG → pxS → Prop} {σ : pxS}  {res : Int32 × pxS} (h : F_Re_parentOrSource σ  = some res) (hR : Rt (some (.inl res.1)) ids cG res.2) : pw l (px_R 4) y_Re_parentOrSource c_Re_parentOrSource 1 (some .int) 0 [(0, .inr (some (6, 0, 0)))] [] ids cG σ 0 0 Rt := by
  unfold F_Re_parentOrSource at h
  refine pw_aload_n 0 (px_at td_Re_parentOrSource 0 rfl) rfl rfl ?_
  refine pw_getf (v := .inl (σ (6, 0, 0) 11)) (px_at td_Re_parentOrSource 1 rfl) lf_Re_62 rfl rfl rfl ?_
  refine pw_iconst (v := 2) (px_at td_Re_parentOrSource 2 rfl) (by decide) ?_
  rcases px_ite h with ⟨hc4, h⟩ | ⟨hc4, h⟩
  · refine pw_icmp_ne 25 (px_at td_Re_parentOrSource 3 rfl) (by decide) (fun hn => absurd hc4 hn) (fun _ => ?_)
    refine pw_aload_n 0 (px_at td_Re_parentOrSource 4 rfl) rfl rfl ?_
    refine pw_getf (v := .inl (σ (6, 0, 0) 12)) (px_at td_Re_parentOrSource 5 rfl) lf_Re_68 rfl rfl rfl ?_
    refine pw_bipush (v := 13) (px_at td_Re_parentOrSource 6 rfl) (by decide) ?_
    rcases px_ite h with ⟨hc3, h⟩ | ⟨hc3, h⟩
    · refine pw_icmp_ne 25 (px_at td_Re_parentOrSource 7 rfl) (by decide) (fun hn => absurd hc3 hn) (fun _ => ?_)
      refine pw_aload_n 0 (px_at td_Re_parentOrSource 8 rfl) rfl rfl ?_
      refine pw_iconst (v := 2) (px_at td_Re_parentOrSource 9 rfl) (by decide) ?_
      obtain ⟨σ2, hk2, h⟩ := px_b1_e h
      refine pw_cV0 (6, 0, 0) [.inl 2] [] (px_at td_Re_parentOrSource 10 rfl) lV_Re_86 rfl rfl rfl (Nat.le_of_ble_eq_true rfl) (by decide) (k_Re_take hk2) ?_
      refine pw_bipush (v := (-2)) (px_at td_Re_parentOrSource 11 rfl) (by decide) ?_
      obtain rfl := Option.some.inj h
      exact pw_iret (px_at td_Re_parentOrSource 12 rfl) rfl (Nat.le_refl 0) (Nat.le_refl 0) hR
    · refine pw_icmp_ne 25 (px_at td_Re_parentOrSource 7 rfl) (by decide) (fun _ => ?_) (fun hn => absurd hn hc3)
      exact Re_parentOrSource_n25_l h hR
  · refine pw_icmp_ne 25 (px_at td_Re_parentOrSource 3 rfl) (by decide) (fun _ => ?_) (fun hn => absurd hn hc4)
    exact Re_parentOrSource_n25_l h hR
theorem k_Re_parentOrSource {l : Launch} {ids : List pxI} {σ : pxS}  {res : Int32 × pxS} (h : F_Re_parentOrSource σ  = some res) : pm l y_Re_parentOrSource c_Re_parentOrSource 1 (some .int) (px_R 4) [.inr (some (6, 0, 0))] ids cG σ (px_r (some (.inl res.1)) ids cG res.2) :=
  pm_ofF (by decide +kernel) (Nat.le_of_ble_eq_true rfl) (e_Re_parentOrSource h ⟨rfl, rfl, rfl, rfl⟩)
/-! Re_readRail -/
def F_Re_readRail (σ : pxS)  : Option (pxS) :=
  (if (σ (1, (σ (6, 0, 0) 0).toNatClampNeg, 0) 0) < 12 then px_b1 (F_Re_advance σ ) fun σ1 =>
  px_b2 (F_Re_freshName σ1 ) fun r2 σ2 =>
  px_gd (σ (1, (σ (6, 0, 0) 0).toNatClampNeg, 0) 0) 12 (px_l (px_up σ2 (8, (σ1 (6, 0, 0) 0).toNatClampNeg, 0) (σ (1, (σ (6, 0, 0) 0).toNatClampNeg, 0) 0).toNatClampNeg r2) fun σ4 =>
  px_b2 (F_Re_parentOrSource σ4 ) fun r5 σ5 =>
  px_gd (σ (1, (σ (6, 0, 0) 0).toNatClampNeg, 0) 0) 12 (px_l (px_up σ5 (8, (σ4 (6, 0, 0) 0).toNatClampNeg, 1) (σ (1, (σ (6, 0, 0) 0).toNatClampNeg, 0) 0).toNatClampNeg r5) fun σ7 =>
  px_b2 (F_Re_number σ7 1 9999) fun r8 σ8 =>
  px_gd (σ (1, (σ (6, 0, 0) 0).toNatClampNeg, 0) 0) 12 (px_l (px_up σ8 (8, (σ7 (6, 0, 0) 0).toNatClampNeg, 2) (σ (1, (σ (6, 0, 0) 0).toNatClampNeg, 0) 0).toNatClampNeg r8) fun σ10 =>
  px_b2 (F_Re_number σ10 1 9999) fun r11 σ11 =>
  px_gd (σ (1, (σ (6, 0, 0) 0).toNatClampNeg, 0) 0) 12 (px_l (px_up σ11 (8, (σ10 (6, 0, 0) 0).toNatClampNeg, 3) (σ (1, (σ (6, 0, 0) 0).toNatClampNeg, 0) 0).toNatClampNeg r11) fun σ13 =>
  px_b2 (F_Re_number σ13 0 99) fun r14 σ14 =>
  px_gd (σ (1, (σ (6, 0, 0) 0).toNatClampNeg, 0) 0) 12 (px_l (px_up σ14 (8, (σ13 (6, 0, 0) 0).toNatClampNeg, 4) (σ (1, (σ (6, 0, 0) 0).toNatClampNeg, 0) 0).toNatClampNeg r14) fun σ16 =>
  px_b2 (F_Re_number σ16 0 999) fun r17 σ17 =>
  px_gd (σ (1, (σ (6, 0, 0) 0).toNatClampNeg, 0) 0) 12 (px_l (px_up σ17 (8, (σ16 (6, 0, 0) 0).toNatClampNeg, 5) (σ (1, (σ (6, 0, 0) 0).toNatClampNeg, 0) 0).toNatClampNeg r17) fun σ19 =>
  px_b2 (F_Re_number σ19 1 99999) fun r20 σ20 =>
  px_gd (σ (1, (σ (6, 0, 0) 0).toNatClampNeg, 0) 0) 12 (px_l (px_up σ20 (8, (σ19 (6, 0, 0) 0).toNatClampNeg, 6) (σ (1, (σ (6, 0, 0) 0).toNatClampNeg, 0) 0).toNatClampNeg r20) fun σ22 =>
  px_gd (σ (1, (σ (6, 0, 0) 0).toNatClampNeg, 0) 0) 12 (px_l (px_up σ22 (8, (σ22 (6, 0, 0) 0).toNatClampNeg, 7) (σ (1, (σ (6, 0, 0) 0).toNatClampNeg, 0) 0).toNatClampNeg 0) fun σ24 =>
  px_l (px_up σ24 (1, (σ24 (6, 0, 0) 0).toNatClampNeg, 0) 0 ((σ24 (1, (σ24 (6, 0, 0) 0).toNatClampNeg, 0) 0) + 1)) fun σ25 =>
  some σ25)))))))) else px_b1 (F_Re_refuse σ 2) fun σ26 =>
  some σ26)
set_option maxRecDepth 100000 in
theorem e_Re_readRail {l : Launch} {ids : List pxI} {Rt : Option pxV → List pxI → pxG → pxS → Prop} {σ : pxS}  {res : pxS} (h : F_Re_readRail σ  = some res) (hR : Rt none ids cG res) : pw l (px_R 5) y_Re_readRail c_Re_readRail 2 none 0 [(0, .inr (some (6, 0, 0)))] [] ids cG σ 0 0 Rt := by
  unfold F_Re_readRail at h
  refine pw_aload_n 0 (px_at td_Re_readRail 0 rfl) rfl rfl ?_
  refine pw_getf (v := .inr (some (1, (σ (6, 0, 0) 0).toNatClampNeg, 0))) (px_at td_Re_readRail 1 rfl) lf_Re_12 rfl rfl rfl ?_
  refine pw_getf (v := .inl (σ (1, (σ (6, 0, 0) 0).toNatClampNeg, 0) 0)) (px_at td_Re_readRail 2 rfl) lf_Re_89 rfl rfl rfl ?_
  refine pw_bipush (v := 12) (px_at td_Re_readRail 3 rfl) (by decide) ?_
  rcases px_ite h with ⟨hc27, h⟩ | ⟨hc27, h⟩
  · refine pw_icmp_lt 18 (px_at td_Re_readRail 4 rfl) (by decide) (fun _ => ?_) (fun hn => absurd hc27 hn)
    refine pw_aload_n 0 (px_at td_Re_readRail 9 rfl) rfl rfl ?_
    refine pw_getf (v := .inr (some (1, (σ (6, 0, 0) 0).toNatClampNeg, 0))) (px_at td_Re_readRail 10 rfl) lf_Re_12 rfl rfl rfl ?_
    refine pw_getf (v := .inl (σ (1, (σ (6, 0, 0) 0).toNatClampNeg, 0) 0)) (px_at td_Re_readRail 11 rfl) lf_Re_89 rfl rfl rfl ?_
    refine pw_istore_n (L' := [(1, .inl (σ (1, (σ (6, 0, 0) 0).toNatClampNeg, 0) 0)), (0, .inr (some (6, 0, 0)))]) (px_at td_Re_readRail 12 rfl) rfl (by decide) rfl ?_
    refine pw_aload_n 1 (px_at td_Re_readRail 13 rfl) rfl rfl ?_
    obtain ⟨σ1, hk1, h⟩ := px_b1_e h
    refine pw_cV0 (6, 0, 0) [] [] (px_at td_Re_readRail 14 rfl) lV_Re_56 rfl rfl rfl (Nat.le_of_ble_eq_true rfl) (by decide) (k_Re_advance hk1) ?_
    refine pw_aload_n 1 (px_at td_Re_readRail 15 rfl) rfl rfl ?_
    refine pw_getf (v := .inr (some (1, (σ1 (6, 0, 0) 0).toNatClampNeg, 0))) (px_at td_Re_readRail 16 rfl) lf_Re_12 rfl rfl rfl ?_
    refine pw_getf (v := .inr (some (8, (σ1 (6, 0, 0) 0).toNatClampNeg, 0))) (px_at td_Re_readRail 17 rfl) lf_Re_92 rfl rfl rfl ?_
    refine pw_iload_n 0 (px_at td_Re_readRail 18 rfl) rfl rfl ?_
    refine pw_aload_n 1 (px_at td_Re_readRail 19 rfl) rfl rfl ?_
    obtain ⟨r2, σ2, hk2, h⟩ := px_b2_e h
    refine pw_cV1 (6, 0, 0) [] [.inl (σ (1, (σ (6, 0, 0) 0).toNatClampNeg, 0) 0), .inr (some (8, (σ1 (6, 0, 0) 0).toNatClampNeg, 0))] (px_at td_Re_readRail 20 rfl) lV_Re_95 rfl rfl rfl (Nat.le_of_ble_eq_true rfl) (by decide) (k_Re_freshName hk2) ?_
    obtain ⟨hi3, h⟩ := px_gd_e h
    obtain ⟨σ4, hσ4, h⟩ := px_l_e h
    refine pw_ias (px_at td_Re_readRail 21 rfl) rfl hi3 rfl hσ4 ?_
    refine pw_aload_n 1 (px_at td_Re_readRail 22 rfl) rfl rfl ?_
    refine pw_getf (v := .inr (some (1, (σ4 (6, 0, 0) 0).toNatClampNeg, 0))) (px_at td_Re_readRail 23 rfl) lf_Re_12 rfl rfl rfl ?_
    refine pw_getf (v := .inr (some (8, (σ4 (6, 0, 0) 0).toNatClampNeg, 1))) (px_at td_Re_readRail 24 rfl) lf_Re_99 rfl rfl rfl ?_
    refine pw_iload_n 0 (px_at td_Re_readRail 25 rfl) rfl rfl ?_
    refine pw_aload_n 1 (px_at td_Re_readRail 26 rfl) rfl rfl ?_
    obtain ⟨r5, σ5, hk5, h⟩ := px_b2_e h
    refine pw_cV1 (6, 0, 0) [] [.inl (σ (1, (σ (6, 0, 0) 0).toNatClampNeg, 0) 0), .inr (some (8, (σ4 (6, 0, 0) 0).toNatClampNeg, 1))] (px_at td_Re_readRail 27 rfl) lV_Re_102 rfl rfl rfl (Nat.le_of_ble_eq_true rfl) (by decide) (k_Re_parentOrSource hk5) ?_
    obtain ⟨hi6, h⟩ := px_gd_e h
    obtain ⟨σ7, hσ7, h⟩ := px_l_e h
    refine pw_ias (px_at td_Re_readRail 28 rfl) rfl hi6 rfl hσ7 ?_
    refine pw_aload_n 1 (px_at td_Re_readRail 29 rfl) rfl rfl ?_
    refine pw_getf (v := .inr (some (1, (σ7 (6, 0, 0) 0).toNatClampNeg, 0))) (px_at td_Re_readRail 30 rfl) lf_Re_12 rfl rfl rfl ?_
    refine pw_getf (v := .inr (some (8, (σ7 (6, 0, 0) 0).toNatClampNeg, 2))) (px_at td_Re_readRail 31 rfl) lf_Re_105 rfl rfl rfl ?_
    refine pw_iload_n 0 (px_at td_Re_readRail 32 rfl) rfl rfl ?_
    refine pw_aload_n 1 (px_at td_Re_readRail 33 rfl) rfl rfl ?_
    refine pw_iconst (v := 1) (px_at td_Re_readRail 34 rfl) (by decide) ?_
    refine pw_sipush (v := 9999) (px_at td_Re_readRail 35 rfl) (by decide) ?_
    obtain ⟨r8, σ8, hk8, h⟩ := px_b2_e h
    refine pw_cV1 (6, 0, 0) [.inl 1, .inl 9999] [.inl (σ (1, (σ (6, 0, 0) 0).toNatClampNeg, 0) 0), .inr (some (8, (σ7 (6, 0, 0) 0).toNatClampNeg, 2))] (px_at td_Re_readRail 36 rfl) lV_Re_108 rfl rfl rfl (Nat.le_of_ble_eq_true rfl) (by decide) (k_Re_number hk8) ?_
    obtain ⟨hi9, h⟩ := px_gd_e h
    obtain ⟨σ10, hσ10, h⟩ := px_l_e h
    refine pw_ias (px_at td_Re_readRail 37 rfl) rfl hi9 rfl hσ10 ?_
    refine pw_aload_n 1 (px_at td_Re_readRail 38 rfl) rfl rfl ?_
    refine pw_getf (v := .inr (some (1, (σ10 (6, 0, 0) 0).toNatClampNeg, 0))) (px_at td_Re_readRail 39 rfl) lf_Re_12 rfl rfl rfl ?_
    refine pw_getf (v := .inr (some (8, (σ10 (6, 0, 0) 0).toNatClampNeg, 3))) (px_at td_Re_readRail 40 rfl) lf_Re_112 rfl rfl rfl ?_
    refine pw_iload_n 0 (px_at td_Re_readRail 41 rfl) rfl rfl ?_
    refine pw_aload_n 1 (px_at td_Re_readRail 42 rfl) rfl rfl ?_
    refine pw_iconst (v := 1) (px_at td_Re_readRail 43 rfl) (by decide) ?_
    refine pw_sipush (v := 9999) (px_at td_Re_readRail 44 rfl) (by decide) ?_
    obtain ⟨r11, σ11, hk11, h⟩ := px_b2_e h
    refine pw_cV1 (6, 0, 0) [.inl 1, .inl 9999] [.inl (σ (1, (σ (6, 0, 0) 0).toNatClampNeg, 0) 0), .inr (some (8, (σ10 (6, 0, 0) 0).toNatClampNeg, 3))] (px_at td_Re_readRail 45 rfl) lV_Re_108 rfl rfl rfl (Nat.le_of_ble_eq_true rfl) (by decide) (k_Re_number hk11) ?_
    obtain ⟨hi12, h⟩ := px_gd_e h
    obtain ⟨σ13, hσ13, h⟩ := px_l_e h
    refine pw_ias (px_at td_Re_readRail 46 rfl) rfl hi12 rfl hσ13 ?_
    refine pw_aload_n 1 (px_at td_Re_readRail 47 rfl) rfl rfl ?_
    refine pw_getf (v := .inr (some (1, (σ13 (6, 0, 0) 0).toNatClampNeg, 0))) (px_at td_Re_readRail 48 rfl) lf_Re_12 rfl rfl rfl ?_
    refine pw_getf (v := .inr (some (8, (σ13 (6, 0, 0) 0).toNatClampNeg, 4))) (px_at td_Re_readRail 49 rfl) lf_Re_115 rfl rfl rfl ?_
    refine pw_iload_n 0 (px_at td_Re_readRail 50 rfl) rfl rfl ?_
    refine pw_aload_n 1 (px_at td_Re_readRail 51 rfl) rfl rfl ?_
    refine pw_iconst (v := 0) (px_at td_Re_readRail 52 rfl) (by decide) ?_
    refine pw_bipush (v := 99) (px_at td_Re_readRail 53 rfl) (by decide) ?_
    obtain ⟨r14, σ14, hk14, h⟩ := px_b2_e h
    refine pw_cV1 (6, 0, 0) [.inl 0, .inl 99] [.inl (σ (1, (σ (6, 0, 0) 0).toNatClampNeg, 0) 0), .inr (some (8, (σ13 (6, 0, 0) 0).toNatClampNeg, 4))] (px_at td_Re_readRail 54 rfl) lV_Re_108 rfl rfl rfl (Nat.le_of_ble_eq_true rfl) (by decide) (k_Re_number hk14) ?_
    obtain ⟨hi15, h⟩ := px_gd_e h
    obtain ⟨σ16, hσ16, h⟩ := px_l_e h
    refine pw_ias (px_at td_Re_readRail 55 rfl) rfl hi15 rfl hσ16 ?_
    refine pw_aload_n 1 (px_at td_Re_readRail 56 rfl) rfl rfl ?_
    refine pw_getf (v := .inr (some (1, (σ16 (6, 0, 0) 0).toNatClampNeg, 0))) (px_at td_Re_readRail 57 rfl) lf_Re_12 rfl rfl rfl ?_
    refine pw_getf (v := .inr (some (8, (σ16 (6, 0, 0) 0).toNatClampNeg, 5))) (px_at td_Re_readRail 58 rfl) lf_Re_118 rfl rfl rfl ?_
    refine pw_iload_n 0 (px_at td_Re_readRail 59 rfl) rfl rfl ?_
    refine pw_aload_n 1 (px_at td_Re_readRail 60 rfl) rfl rfl ?_
    refine pw_iconst (v := 0) (px_at td_Re_readRail 61 rfl) (by decide) ?_
    refine pw_sipush (v := 999) (px_at td_Re_readRail 62 rfl) (by decide) ?_
    obtain ⟨r17, σ17, hk17, h⟩ := px_b2_e h
    refine pw_cV1 (6, 0, 0) [.inl 0, .inl 999] [.inl (σ (1, (σ (6, 0, 0) 0).toNatClampNeg, 0) 0), .inr (some (8, (σ16 (6, 0, 0) 0).toNatClampNeg, 5))] (px_at td_Re_readRail 63 rfl) lV_Re_108 rfl rfl rfl (Nat.le_of_ble_eq_true rfl) (by decide) (k_Re_number hk17) ?_
    obtain ⟨hi18, h⟩ := px_gd_e h
    obtain ⟨σ19, hσ19, h⟩ := px_l_e h
    refine pw_ias (px_at td_Re_readRail 64 rfl) rfl hi18 rfl hσ19 ?_
    refine pw_aload_n 1 (px_at td_Re_readRail 65 rfl) rfl rfl ?_
    refine pw_getf (v := .inr (some (1, (σ19 (6, 0, 0) 0).toNatClampNeg, 0))) (px_at td_Re_readRail 66 rfl) lf_Re_12 rfl rfl rfl ?_
    refine pw_getf (v := .inr (some (8, (σ19 (6, 0, 0) 0).toNatClampNeg, 6))) (px_at td_Re_readRail 67 rfl) lf_Re_121 rfl rfl rfl ?_
    refine pw_iload_n 0 (px_at td_Re_readRail 68 rfl) rfl rfl ?_
    refine pw_aload_n 1 (px_at td_Re_readRail 69 rfl) rfl rfl ?_
    refine pw_iconst (v := 1) (px_at td_Re_readRail 70 rfl) (by decide) ?_
    refine pw_ldc (v := 99999) (px_at td_Re_readRail 71 rfl) lc_Re_124 ?_
    obtain ⟨r20, σ20, hk20, h⟩ := px_b2_e h
    refine pw_cV1 (6, 0, 0) [.inl 1, .inl 99999] [.inl (σ (1, (σ (6, 0, 0) 0).toNatClampNeg, 0) 0), .inr (some (8, (σ19 (6, 0, 0) 0).toNatClampNeg, 6))] (px_at td_Re_readRail 72 rfl) lV_Re_108 rfl rfl rfl (Nat.le_of_ble_eq_true rfl) (by decide) (k_Re_number hk20) ?_
    obtain ⟨hi21, h⟩ := px_gd_e h
    obtain ⟨σ22, hσ22, h⟩ := px_l_e h
    refine pw_ias (px_at td_Re_readRail 73 rfl) rfl hi21 rfl hσ22 ?_
    refine pw_aload_n 1 (px_at td_Re_readRail 74 rfl) rfl rfl ?_
    refine pw_getf (v := .inr (some (1, (σ22 (6, 0, 0) 0).toNatClampNeg, 0))) (px_at td_Re_readRail 75 rfl) lf_Re_12 rfl rfl rfl ?_
    refine pw_getf (v := .inr (some (8, (σ22 (6, 0, 0) 0).toNatClampNeg, 7))) (px_at td_Re_readRail 76 rfl) lf_Re_125 rfl rfl rfl ?_
    refine pw_iload_n 0 (px_at td_Re_readRail 77 rfl) rfl rfl ?_
    refine pw_iconst (v := 0) (px_at td_Re_readRail 78 rfl) (by decide) ?_
    obtain ⟨hi23, h⟩ := px_gd_e h
    obtain ⟨σ24, hσ24, h⟩ := px_l_e h
    refine pw_ias (px_at td_Re_readRail 79 rfl) rfl hi23 rfl hσ24 ?_
    refine pw_aload_n 1 (px_at td_Re_readRail 80 rfl) rfl rfl ?_
    refine pw_getf (v := .inr (some (1, (σ24 (6, 0, 0) 0).toNatClampNeg, 0))) (px_at td_Re_readRail 81 rfl) lf_Re_12 rfl rfl rfl ?_
    refine pw_dup (px_at td_Re_readRail 82 rfl) ?_
    refine pw_getf (v := .inl (σ24 (1, (σ24 (6, 0, 0) 0).toNatClampNeg, 0) 0)) (px_at td_Re_readRail 83 rfl) lf_Re_89 rfl rfl rfl ?_
    refine pw_iconst (v := 1) (px_at td_Re_readRail 84 rfl) (by decide) ?_
    refine pw_iadd (px_at td_Re_readRail 85 rfl) ?_
    obtain ⟨σ25, hσ25, h⟩ := px_l_e h
    refine pw_puti (px_at td_Re_readRail 86 rfl) lw_Re_89 rfl rfl (pw_s hσ25 ?_)
    obtain rfl := Option.some.inj h
    exact pw_vret (px_at td_Re_readRail 87 rfl) rfl (Nat.le_refl 0) (Nat.le_refl 0) hR
  · refine pw_icmp_lt 18 (px_at td_Re_readRail 4 rfl) (by decide) (fun hn => absurd hn hc27) (fun _ => ?_)
    refine pw_aload_n 0 (px_at td_Re_readRail 5 rfl) rfl rfl ?_
    refine pw_iconst (v := 2) (px_at td_Re_readRail 6 rfl) (by decide) ?_
    obtain ⟨σ26, hk26, h⟩ := px_b1_e h
    refine pw_cV0 (6, 0, 0) [.inl 2] [] (px_at td_Re_readRail 7 rfl) lV_Re_71 rfl rfl rfl (Nat.le_of_ble_eq_true rfl) (by decide) (k_Re_refuse hk26) ?_
    obtain rfl := Option.some.inj h
    exact pw_vret (px_at td_Re_readRail 8 rfl) rfl (Nat.le_refl 0) (Nat.le_refl 0) hR
theorem k_Re_readRail {l : Launch} {ids : List pxI} {σ : pxS}  {res : pxS} (h : F_Re_readRail σ  = some res) : pm l y_Re_readRail c_Re_readRail 2 none (px_R 5) [.inr (some (6, 0, 0))] ids cG σ (px_r none ids cG res) :=
  pm_ofF (by decide +kernel) (Nat.le_of_ble_eq_true rfl) (e_Re_readRail h ⟨rfl, rfl, rfl, rfl⟩)
/-! Re_readLine -/
def Re_readLine_n84 (σ : pxS)  : Option (pxS) :=
  px_b1 (F_Re_take σ 4) fun σ2 =>
  some σ2
set_option maxRecDepth 100000 in
theorem Re_readLine_n84_l {l : Launch} {ids : List pxI} {Rt : Option pxV → List pxI → pxG → pxS → Prop} {σ : pxS}  {res : pxS} (h : Re_readLine_n84 σ  = some res) (hR : Rt none ids cG res) : pw l (px_R 6) y_Re_readLine c_Re_readLine 1 none 84 [(0, .inr (some (6, 0, 0)))] [] ids cG σ 0 0 Rt := by
  unfold Re_readLine_n84 at h
  refine pw_aload_n 0 (px_at td_Re_readLine 40 rfl) rfl rfl ?_
  refine pw_iconst (v := 4) (px_at td_Re_readLine 41 rfl) (by decide) ?_
  obtain ⟨σ2, hk2, h⟩ := px_b1_e h
  refine pw_cV0 (6, 0, 0) [.inl 4] [] (px_at td_Re_readLine 42 rfl) lV_Re_86 rfl rfl rfl (Nat.le_of_ble_eq_true rfl) (by decide) (k_Re_take hk2) ?_
  obtain rfl := Option.some.inj h
  exact pw_vret (px_at td_Re_readLine 43 rfl) rfl (Nat.le_refl 0) (Nat.le_refl 0) hR
def Re_readLine_n17 (σ : pxS)  : Option (pxS) :=
  px_b1 (F_Re_refuse σ 1) fun σ1 =>
  Re_readLine_n84 σ1 
set_option maxRecDepth 100000 in
theorem Re_readLine_n17_l {l : Launch} {ids : List pxI} {Rt : Option pxV → List pxI → pxG → pxS → Prop} {σ : pxS}  {res : pxS} (h : Re_readLine_n17 σ  = some res) (hR : Rt none ids cG res) : pw l (px_R 6) y_Re_readLine c_Re_readLine 1 none 17 [(0, .inr (some (6, 0, 0)))] [] ids cG σ 0 0 Rt := by
  unfold Re_readLine_n17 at h
  refine pw_aload_n 0 (px_at td_Re_readLine 8 rfl) rfl rfl ?_
  refine pw_iconst (v := 1) (px_at td_Re_readLine 9 rfl) (by decide) ?_
  obtain ⟨σ1, hk1, h⟩ := px_b1_e h
  refine pw_cV0 (6, 0, 0) [.inl 1] [] (px_at td_Re_readLine 10 rfl) lV_Re_71 rfl rfl rfl (Nat.le_of_ble_eq_true rfl) (by decide) (k_Re_refuse hk1) ?_
  refine pw_goto 84 (px_at td_Re_readLine 11 rfl) (by decide) ?_
  exact Re_readLine_n84_l h hR
def F_Re_readLine (σ : pxS)  : Option (pxS) :=
  (if (σ (6, 0, 0) 11) = 2 then (if (σ (6, 0, 0) 12) = 13 then Re_readLine_n17 σ  else (if (σ (6, 0, 0) 12) = 0 then px_b1 (F_Re_readRail σ ) fun σ8 =>
  Re_readLine_n84 σ8  else (if (σ (6, 0, 0) 12) = 1 then px_b1 (F_Re_readNeed σ ) fun σ6 =>
  Re_readLine_n84 σ6  else (if 6 ≤ (σ (6, 0, 0) 12) then px_b1 (F_Re_readSetting σ (σ (6, 0, 0) 12)) fun σ3 =>
  Re_readLine_n84 σ3  else px_b1 (F_Re_readStep σ ((σ (6, 0, 0) 12) - 2)) fun σ4 =>
  Re_readLine_n84 σ4 )))) else Re_readLine_n17 σ )
set_option maxRecDepth 100000 in
theorem e_Re_readLine {l : Launch} {ids : List pxI} {Rt : Option pxV → List pxI → pxG → pxS → Prop} {σ : pxS}  {res : pxS} (h : F_Re_readLine σ  = some res) (hR : Rt none ids cG res) : pw l (px_R 6) y_Re_readLine c_Re_readLine 1 none 0 [(0, .inr (some (6, 0, 0)))] [] ids cG σ 0 0 Rt := by
  unfold F_Re_readLine at h
  refine pw_aload_n 0 (px_at td_Re_readLine 0 rfl) rfl rfl ?_
  refine pw_getf (v := .inl (σ (6, 0, 0) 11)) (px_at td_Re_readLine 1 rfl) lf_Re_62 rfl rfl rfl ?_
  refine pw_iconst (v := 2) (px_at td_Re_readLine 2 rfl) (by decide) ?_
  rcases px_ite h with ⟨hc11, h⟩ | ⟨hc11, h⟩
  · refine pw_icmp_ne 17 (px_at td_Re_readLine 3 rfl) (by decide) (fun hn => absurd hc11 hn) (fun _ => ?_)
    refine pw_aload_n 0 (px_at td_Re_readLine 4 rfl) rfl rfl ?_
    refine pw_getf (v := .inl (σ (6, 0, 0) 12)) (px_at td_Re_readLine 5 rfl) lf_Re_68 rfl rfl rfl ?_
    refine pw_bipush (v := 13) (px_at td_Re_readLine 6 rfl) (by decide) ?_
    rcases px_ite h with ⟨hc10, h⟩ | ⟨hc10, h⟩
    · refine pw_icmp_ne 25 (px_at td_Re_readLine 7 rfl) (by decide) (fun hn => absurd hc10 hn) (fun _ => ?_)
      exact Re_readLine_n17_l h hR
    · refine pw_icmp_ne 25 (px_at td_Re_readLine 7 rfl) (by decide) (fun _ => ?_) (fun hn => absurd hn hc10)
      refine pw_aload_n 0 (px_at td_Re_readLine 12 rfl) rfl rfl ?_
      refine pw_getf (v := .inl (σ (6, 0, 0) 12)) (px_at td_Re_readLine 13 rfl) lf_Re_68 rfl rfl rfl ?_
      rcases px_ite h with ⟨hc9, h⟩ | ⟨hc9, h⟩
      · refine pw_if_ne 39 (px_at td_Re_readLine 14 rfl) (by decide) (fun hn => absurd hc9 hn) (fun _ => ?_)
        refine pw_aload_n 0 (px_at td_Re_readLine 15 rfl) rfl rfl ?_
        obtain ⟨σ8, hk8, h⟩ := px_b1_e h
        refine pw_cV0 (6, 0, 0) [] [] (px_at td_Re_readLine 16 rfl) lV_Re_74 rfl rfl rfl (Nat.le_of_ble_eq_true rfl) (by decide) (k_Re_readRail hk8) ?_
        refine pw_goto 84 (px_at td_Re_readLine 17 rfl) (by decide) ?_
        exact Re_readLine_n84_l h hR
      · refine pw_if_ne 39 (px_at td_Re_readLine 14 rfl) (by decide) (fun _ => ?_) (fun hn => absurd hn hc9)
        refine pw_aload_n 0 (px_at td_Re_readLine 18 rfl) rfl rfl ?_
        refine pw_getf (v := .inl (σ (6, 0, 0) 12)) (px_at td_Re_readLine 19 rfl) lf_Re_68 rfl rfl rfl ?_
        refine pw_iconst (v := 1) (px_at td_Re_readLine 20 rfl) (by decide) ?_
        rcases px_ite h with ⟨hc7, h⟩ | ⟨hc7, h⟩
        · refine pw_icmp_ne 54 (px_at td_Re_readLine 21 rfl) (by decide) (fun hn => absurd hc7 hn) (fun _ => ?_)
          refine pw_aload_n 0 (px_at td_Re_readLine 22 rfl) rfl rfl ?_
          obtain ⟨σ6, hk6, h⟩ := px_b1_e h
          refine pw_cV0 (6, 0, 0) [] [] (px_at td_Re_readLine 23 rfl) lV_Re_77 rfl rfl rfl (Nat.le_of_ble_eq_true rfl) (by decide) (k_Re_readNeed hk6) ?_
          refine pw_goto 84 (px_at td_Re_readLine 24 rfl) (by decide) ?_
          exact Re_readLine_n84_l h hR
        · refine pw_icmp_ne 54 (px_at td_Re_readLine 21 rfl) (by decide) (fun _ => ?_) (fun hn => absurd hn hc7)
          refine pw_aload_n 0 (px_at td_Re_readLine 25 rfl) rfl rfl ?_
          refine pw_getf (v := .inl (σ (6, 0, 0) 12)) (px_at td_Re_readLine 26 rfl) lf_Re_68 rfl rfl rfl ?_
          refine pw_bipush (v := 6) (px_at td_Re_readLine 27 rfl) (by decide) ?_
          rcases px_ite h with ⟨hc5, h⟩ | ⟨hc5, h⟩
          · refine pw_icmp_ge 76 (px_at td_Re_readLine 28 rfl) (by decide) (fun _ => ?_) (fun hn => absurd hc5 hn)
            refine pw_aload_n 0 (px_at td_Re_readLine 36 rfl) rfl rfl ?_
            refine pw_aload_n 0 (px_at td_Re_readLine 37 rfl) rfl rfl ?_
            refine pw_getf (v := .inl (σ (6, 0, 0) 12)) (px_at td_Re_readLine 38 rfl) lf_Re_68 rfl rfl rfl ?_
            obtain ⟨σ3, hk3, h⟩ := px_b1_e h
            refine pw_cV0 (6, 0, 0) [.inl (σ (6, 0, 0) 12)] [] (px_at td_Re_readLine 39 rfl) lV_Re_83 rfl rfl rfl (Nat.le_of_ble_eq_true rfl) (by decide) (k_Re_readSetting hk3) ?_
            exact Re_readLine_n84_l h hR
          · refine pw_icmp_ge 76 (px_at td_Re_readLine 28 rfl) (by decide) (fun hn => absurd hn hc5) (fun _ => ?_)
            refine pw_aload_n 0 (px_at td_Re_readLine 29 rfl) rfl rfl ?_
            refine pw_aload_n 0 (px_at td_Re_readLine 30 rfl) rfl rfl ?_
            refine pw_getf (v := .inl (σ (6, 0, 0) 12)) (px_at td_Re_readLine 31 rfl) lf_Re_68 rfl rfl rfl ?_
            refine pw_iconst (v := 2) (px_at td_Re_readLine 32 rfl) (by decide) ?_
            refine pw_isub (px_at td_Re_readLine 33 rfl) ?_
            obtain ⟨σ4, hk4, h⟩ := px_b1_e h
            refine pw_cV0 (6, 0, 0) [.inl ((σ (6, 0, 0) 12) - 2)] [] (px_at td_Re_readLine 34 rfl) lV_Re_80 rfl rfl rfl (Nat.le_of_ble_eq_true rfl) (by decide) (k_Re_readStep hk4) ?_
            refine pw_goto 84 (px_at td_Re_readLine 35 rfl) (by decide) ?_
            exact Re_readLine_n84_l h hR
  · refine pw_icmp_ne 17 (px_at td_Re_readLine 3 rfl) (by decide) (fun _ => ?_) (fun hn => absurd hn hc11)
    exact Re_readLine_n17_l h hR
theorem k_Re_readLine {l : Launch} {ids : List pxI} {σ : pxS}  {res : pxS} (h : F_Re_readLine σ  = some res) : pm l y_Re_readLine c_Re_readLine 1 none (px_R 6) [.inr (some (6, 0, 0))] ids cG σ (px_r none ids cG res) :=
  pm_ofF (by decide +kernel) (Nat.le_of_ble_eq_true rfl) (e_Re_readLine h ⟨rfl, rfl, rfl, rfl⟩)
/-! Re_readAll -/
def Re_readAll_n35 (σ : pxS) (v2 : Int32) (v3 : Int32) : Option ((Int32 × Int32 × pxS) ⊕ (Int32 × pxS)) :=
  (if (σ (6, 0, 0) 7) ≤ v3 then some (.inr (v2, σ)) else (if (σ (6, 0, 0) 11) = 0 then some (.inr (v2, σ)) else (if (σ (6, 0, 0) 1) = 0 then px_b1 (F_Re_readLine σ ) fun σ7 =>
  some (.inl ((v2 + 1), (v3 + 1), σ7)) else some (.inr (v2, σ)))))
set_option maxRecDepth 100000 in
theorem Re_readAll_n35_l {l : Launch} {ids : List pxI} {Rt : Option pxV → List pxI → pxG → pxS → Prop} {σ : pxS} {v2 : Int32} {v3 : Int32} {o : (Int32 × Int32 × pxS) ⊕ (Int32 × pxS)} (h : Re_readAll_n35 σ v2 v3 = some o) (hC : ∀ s, o = .inl s → pw l (px_R 7) y_Re_readAll c_Re_readAll 4 (some .int) 35 [(0, .inr (some (6, 0, 0))), (2, .inl s.1), (3, .inl s.2.1)] [] ids cG s.2.2 0 0 Rt) (hX0 : ∀ e, o = .inr e → pw l (px_R 7) y_Re_readAll c_Re_readAll 4 (some .int) 70 [(2, .inl e.1)] [] ids cG e.2 0 0 Rt) : pw l (px_R 7) y_Re_readAll c_Re_readAll 4 (some .int) 35 [(0, .inr (some (6, 0, 0))), (2, .inl v2), (3, .inl v3)] [] ids cG σ 0 0 Rt := by
  unfold Re_readAll_n35 at h
  refine pw_iload_n 2 (px_at td_Re_readAll 21 rfl) rfl rfl ?_
  refine pw_aload_n 0 (px_at td_Re_readAll 22 rfl) rfl rfl ?_
  refine pw_getf (v := .inl (σ (6, 0, 0) 7)) (px_at td_Re_readAll 23 rfl) lf_Re_59 rfl rfl rfl ?_
  rcases px_ite h with ⟨hc10, h⟩ | ⟨hc10, h⟩
  · refine pw_icmp_ge 70 (px_at td_Re_readAll 24 rfl) (by decide) (fun _ => ?_) (fun hn => absurd hc10 hn)
    refine pw_L [(2, .inl v2)] [1] rfl ?_
    exact hX0 (v2, σ) (Option.some.inj h).symm
  · refine pw_icmp_ge 70 (px_at td_Re_readAll 24 rfl) (by decide) (fun hn => absurd hn hc10) (fun _ => ?_)
    refine pw_aload_n 0 (px_at td_Re_readAll 25 rfl) rfl rfl ?_
    refine pw_getf (v := .inl (σ (6, 0, 0) 11)) (px_at td_Re_readAll 26 rfl) lf_Re_62 rfl rfl rfl ?_
    rcases px_ite h with ⟨hc9, h⟩ | ⟨hc9, h⟩
    · refine pw_if_eq 70 (px_at td_Re_readAll 27 rfl) (by decide) (fun _ => ?_) (fun hn => absurd hc9 hn)
      refine pw_L [(2, .inl v2)] [1] rfl ?_
      exact hX0 (v2, σ) (Option.some.inj h).symm
    · refine pw_if_eq 70 (px_at td_Re_readAll 27 rfl) (by decide) (fun hn => absurd hn hc9) (fun _ => ?_)
      refine pw_aload_n 0 (px_at td_Re_readAll 28 rfl) rfl rfl ?_
      refine pw_getf (v := .inl (σ (6, 0, 0) 1)) (px_at td_Re_readAll 29 rfl) lf_Re_50 rfl rfl rfl ?_
      rcases px_ite h with ⟨hc8, h⟩ | ⟨hc8, h⟩
      · refine pw_if_ne 70 (px_at td_Re_readAll 30 rfl) (by decide) (fun hn => absurd hc8 hn) (fun _ => ?_)
        refine pw_aload_n 0 (px_at td_Re_readAll 31 rfl) rfl rfl ?_
        obtain ⟨σ7, hk7, h⟩ := px_b1_e h
        refine pw_cV0 (6, 0, 0) [] [] (px_at td_Re_readAll 32 rfl) lV_Re_65 rfl rfl rfl (Nat.le_of_ble_eq_true rfl) (by decide) (k_Re_readLine hk7) ?_
        refine pw_iinc (q := 1) (v := (v2 + 1)) (L' := [(2, .inl (v2 + 1)), (0, .inr (some (6, 0, 0))), (3, .inl v3)]) (px_at td_Re_readAll 33 rfl) rfl rfl (by decide) rfl ?_
        refine pw_iinc (q := 2) (v := (v3 + 1)) (L' := [(3, .inl (v3 + 1)), (2, .inl (v2 + 1)), (0, .inr (some (6, 0, 0)))]) (px_at td_Re_readAll 34 rfl) rfl rfl (by decide) rfl ?_
        refine pw_goto 35 (px_at td_Re_readAll 35 rfl) (by decide) ?_
        refine pw_L [(0, .inr (some (6, 0, 0))), (2, .inl (v2 + 1)), (3, .inl (v3 + 1))] [2, 1, 0] rfl ?_
        exact hC ((v2 + 1), (v3 + 1), σ7) (Option.some.inj h).symm
      · refine pw_if_ne 70 (px_at td_Re_readAll 30 rfl) (by decide) (fun _ => ?_) (fun hn => absurd hn hc8)
        refine pw_L [(2, .inl v2)] [1] rfl ?_
        exact hX0 (v2, σ) (Option.some.inj h).symm
def Re_readAll_L35  : (Int32 × Int32 × pxS) → Option ((Int32 × Int32 × pxS) ⊕ (Int32 × pxS)) := fun s => Re_readAll_n35 s.2.2 s.1 s.2.1
set_option maxRecDepth 100000 in
theorem Re_readAll_L35_l {l : Launch} {ids : List pxI} {Rt : Option pxV → List pxI → pxG → pxS → Prop}  {n : Nat} {s : Int32 × Int32 × pxS} {e : Int32 × pxS} (h : px_it (Re_readAll_L35 ) n s = some e) (hX0 : pw l (px_R 7) y_Re_readAll c_Re_readAll 4 (some .int) 70 [(2, .inl e.1)] [] ids cG e.2 0 0 Rt) : pw l (px_R 7) y_Re_readAll c_Re_readAll 4 (some .int) 35 [(0, .inr (some (6, 0, 0))), (2, .inl s.1), (3, .inl s.2.1)] [] ids cG s.2.2 0 0 Rt := by
  refine px_it_rule (f := Re_readAll_L35 ) (C := fun s => pw l (px_R 7) y_Re_readAll c_Re_readAll 4 (some .int) 35 [(0, .inr (some (6, 0, 0))), (2, .inl s.1), (3, .inl s.2.1)] [] ids cG s.2.2 0 0 Rt) (X := fun e => (pw l (px_R 7) y_Re_readAll c_Re_readAll 4 (some .int) 70 [(2, .inl e.1)] [] ids cG e.2 0 0 Rt)) ?_ ?_ n s e h hX0
  · intro s s1 hf hC
    exact Re_readAll_n35_l hf (fun s2 hs => by cases hs; exact hC) (fun e he => by cases he)
  · intro s e hf hX
    exact Re_readAll_n35_l hf (fun s2 hs => by cases hs) (fun e1 he => by cases he; exact hX)
def F_Re_readAll (σ : pxS) (v1 : Int32) : Option (Int32 × pxS) :=
  px_b1 (F_Re_cutAll σ v1) fun σ1 =>
  px_b1 (F_Pl_forget σ1 (σ1 (6, 0, 0) 0)) fun σ2 =>
  px_l (px_up σ2 (6, 0, 0) 14 0) fun σ3 =>
  px_l (px_up σ3 (6, 0, 0) 1 0) fun σ4 =>
  px_l (px_up σ4 (6, 0, 0) 13 0) fun σ5 =>
  px_b1 (F_Re_advance σ5 ) fun σ6 =>
  px_b1 (px_it (Re_readAll_L35 ) px_N (0, 0, σ6)) fun e11 =>
  some (e11.1, e11.2)
set_option maxRecDepth 100000 in
theorem e_Re_readAll {l : Launch} {ids : List pxI} {Rt : Option pxV → List pxI → pxG → pxS → Prop} {σ : pxS} {v1 : Int32} {res : Int32 × pxS} (h : F_Re_readAll σ v1 = some res) (hR : Rt (some (.inl res.1)) ids cG res.2) : pw l (px_R 7) y_Re_readAll c_Re_readAll 4 (some .int) 0 [(0, .inr (some (6, 0, 0))), (1, .inl v1)] [] ids cG σ 0 0 Rt := by
  unfold F_Re_readAll at h
  refine pw_aload_n 0 (px_at td_Re_readAll 0 rfl) rfl rfl ?_
  refine pw_iload_n 1 (px_at td_Re_readAll 1 rfl) rfl rfl ?_
  obtain ⟨σ1, hk1, h⟩ := px_b1_e h
  refine pw_cV0 (6, 0, 0) [.inl v1] [] (px_at td_Re_readAll 2 rfl) lV_Re_39 rfl rfl rfl (Nat.le_of_ble_eq_true rfl) (by decide) (k_Re_cutAll hk1) ?_
  refine pw_aload_n 0 (px_at td_Re_readAll 3 rfl) rfl rfl ?_
  refine pw_getf (v := .inr (some (1, (σ1 (6, 0, 0) 0).toNatClampNeg, 0))) (px_at td_Re_readAll 4 rfl) lf_Re_12 rfl rfl rfl ?_
  obtain ⟨σ2, hk2, h⟩ := px_b1_e h
  refine pw_cV0 (1, (σ1 (6, 0, 0) 0).toNatClampNeg, 0) [] [] (px_at td_Re_readAll 5 rfl) lV_Re_43 rfl rfl rfl (Nat.le_of_ble_eq_true rfl) (by decide) (k_Pl_forget hk2) ?_
  refine pw_aload_n 0 (px_at td_Re_readAll 6 rfl) rfl rfl ?_
  refine pw_iconst (v := 0) (px_at td_Re_readAll 7 rfl) (by decide) ?_
  obtain ⟨σ3, hσ3, h⟩ := px_l_e h
  refine pw_puti (px_at td_Re_readAll 8 rfl) lw_Re_46 rfl rfl (pw_s hσ3 ?_)
  refine pw_aload_n 0 (px_at td_Re_readAll 9 rfl) rfl rfl ?_
  refine pw_iconst (v := 0) (px_at td_Re_readAll 10 rfl) (by decide) ?_
  obtain ⟨σ4, hσ4, h⟩ := px_l_e h
  refine pw_puti (px_at td_Re_readAll 11 rfl) lw_Re_50 rfl rfl (pw_s hσ4 ?_)
  refine pw_aload_n 0 (px_at td_Re_readAll 12 rfl) rfl rfl ?_
  refine pw_iconst (v := 0) (px_at td_Re_readAll 13 rfl) (by decide) ?_
  obtain ⟨σ5, hσ5, h⟩ := px_l_e h
  refine pw_puti (px_at td_Re_readAll 14 rfl) lw_Re_53 rfl rfl (pw_s hσ5 ?_)
  refine pw_aload_n 0 (px_at td_Re_readAll 15 rfl) rfl rfl ?_
  obtain ⟨σ6, hk6, h⟩ := px_b1_e h
  refine pw_cV0 (6, 0, 0) [] [] (px_at td_Re_readAll 16 rfl) lV_Re_56 rfl rfl rfl (Nat.le_of_ble_eq_true rfl) (by decide) (k_Re_advance hk6) ?_
  refine pw_iconst (v := 0) (px_at td_Re_readAll 17 rfl) (by decide) ?_
  refine pw_istore_n (L' := [(2, .inl 0), (0, .inr (some (6, 0, 0))), (1, .inl v1)]) (px_at td_Re_readAll 18 rfl) rfl (by decide) rfl ?_
  refine pw_iconst (v := 0) (px_at td_Re_readAll 19 rfl) (by decide) ?_
  refine pw_istore_n (L' := [(3, .inl 0), (2, .inl 0), (0, .inr (some (6, 0, 0))), (1, .inl v1)]) (px_at td_Re_readAll 20 rfl) rfl (by decide) rfl ?_
  obtain ⟨e11, he11, h⟩ := px_b1_e h
  refine pw_L [(0, .inr (some (6, 0, 0))), (2, .inl 0), (3, .inl 0)] [2, 1, 0] rfl ?_
  refine Re_readAll_L35_l he11 ?_
  refine pw_iload_n 0 (px_at td_Re_readAll 36 rfl) rfl rfl ?_
  obtain rfl := Option.some.inj h
  exact pw_iret (px_at td_Re_readAll 37 rfl) rfl (Nat.le_refl 0) (Nat.le_refl 0) hR
theorem k_Re_readAll {l : Launch} {ids : List pxI} {σ : pxS} {v1 : Int32} {res : Int32 × pxS} (h : F_Re_readAll σ v1 = some res) : pm l y_Re_readAll c_Re_readAll 4 (some .int) (px_R 7) [.inr (some (6, 0, 0)), .inl v1] ids cG σ (px_r (some (.inl res.1)) ids cG res.2) :=
  pm_ofF (by decide +kernel) (Nat.le_of_ble_eq_true rfl) (e_Re_readAll h ⟨rfl, rfl, rfl, rfl⟩)
/-! Re_lettersOf -/
def Re_lettersOf_n53 (σ : pxS) (v1 : Int32) (v2 : Int32) (v3 : Int32) : Option ((Int32 × Int32) ⊕ (Int32)) :=
  some (.inl (v1, (v3 + 1)))
set_option maxRecDepth 100000 in
theorem Re_lettersOf_n53_l {l : Launch} {ids : List pxI} {G : pxG} {Rt : Option pxV → List pxI → pxG → pxS → Prop} {σ : pxS} {v1 : Int32} {v2 : Int32} {v3 : Int32} {o : (Int32 × Int32) ⊕ (Int32)} (h : Re_lettersOf_n53 σ v1 v2 v3 = some o) (hC : ∀ s, o = .inl s → pw l (px_R 6) y_Re_lettersOf c_Re_lettersOf 5 (some .int) 9 [(1, .inl s.1), (2, .inl v2), (3, .inl s.2)] [] ids G σ 0 0 Rt) (hX0 : ∀ e, o = .inr e → pw l (px_R 6) y_Re_lettersOf c_Re_lettersOf 5 (some .int) 59 [(1, .inl e)] [] ids G σ 0 0 Rt) : pw l (px_R 6) y_Re_lettersOf c_Re_lettersOf 5 (some .int) 53 [(1, .inl v1), (2, .inl v2), (3, .inl v3)] [] ids G σ 0 0 Rt := by
  unfold Re_lettersOf_n53 at h
  refine pw_iinc (q := 2) (v := (v3 + 1)) (L' := [(3, .inl (v3 + 1)), (1, .inl v1), (2, .inl v2)]) (px_at td_Re_lettersOf 32 rfl) rfl rfl (by decide) rfl ?_
  refine pw_goto 9 (px_at td_Re_lettersOf 33 rfl) (by decide) ?_
  refine pw_L [(1, .inl v1), (2, .inl v2), (3, .inl (v3 + 1))] [1, 2, 0] rfl ?_
  exact hC (v1, (v3 + 1)) (Option.some.inj h).symm
def Re_lettersOf_n9 (σ : pxS) (v1 : Int32) (v2 : Int32) (v3 : Int32) : Option ((Int32 × Int32) ⊕ (Int32)) :=
  (if 6 ≤ v3 then some (.inr v1) else (if 84 ≤ (v2 + v3) then some (.inr v1) else px_gd (v2 + v3) 84 (px_b1 (F_Re_isLetter σ (px_chr 1 (v2 + v3).toNatClampNeg)) fun r2 =>
  (if r2 = 0 then Re_lettersOf_n53 σ v1 v2 v3 else px_b1 (F_Re_letterBits σ (px_chr 1 (v2 + v3).toNatClampNeg) v3) fun r3 =>
  Re_lettersOf_n53 σ (v1 ||| r3) v2 v3))))
set_option maxRecDepth 100000 in
theorem Re_lettersOf_n9_l {l : Launch} {ids : List pxI} {G : pxG} {Rt : Option pxV → List pxI → pxG → pxS → Prop} {σ : pxS} {v1 : Int32} {v2 : Int32} {v3 : Int32} {o : (Int32 × Int32) ⊕ (Int32)} (h : Re_lettersOf_n9 σ v1 v2 v3 = some o) (hC : ∀ s, o = .inl s → pw l (px_R 6) y_Re_lettersOf c_Re_lettersOf 5 (some .int) 9 [(1, .inl s.1), (2, .inl v2), (3, .inl s.2)] [] ids G σ 0 0 Rt) (hX0 : ∀ e, o = .inr e → pw l (px_R 6) y_Re_lettersOf c_Re_lettersOf 5 (some .int) 59 [(1, .inl e)] [] ids G σ 0 0 Rt) : pw l (px_R 6) y_Re_lettersOf c_Re_lettersOf 5 (some .int) 9 [(1, .inl v1), (2, .inl v2), (3, .inl v3)] [] ids G σ 0 0 Rt := by
  unfold Re_lettersOf_n9 at h
  refine pw_iload_n 2 (px_at td_Re_lettersOf 8 rfl) rfl rfl ?_
  refine pw_bipush (v := 6) (px_at td_Re_lettersOf 9 rfl) (by decide) ?_
  rcases px_ite h with ⟨hc6, h⟩ | ⟨hc6, h⟩
  · refine pw_icmp_ge 59 (px_at td_Re_lettersOf 10 rfl) (by decide) (fun _ => ?_) (fun hn => absurd hc6 hn)
    refine pw_L [(1, .inl v1)] [0] rfl ?_
    exact hX0 v1 (Option.some.inj h).symm
  · refine pw_icmp_ge 59 (px_at td_Re_lettersOf 10 rfl) (by decide) (fun hn => absurd hn hc6) (fun _ => ?_)
    refine pw_iload_n 1 (px_at td_Re_lettersOf 11 rfl) rfl rfl ?_
    refine pw_iload_n 2 (px_at td_Re_lettersOf 12 rfl) rfl rfl ?_
    refine pw_iadd (px_at td_Re_lettersOf 13 rfl) ?_
    refine pw_slen (i := 1) (v := 84) (px_at td_Re_lettersOf 14 rfl) (px_at td_Re_lettersOf 15 rfl) (Or.inr ⟨rfl, rfl, rfl⟩) ls_Re_200 (by decide) (by decide) (Nat.le_of_ble_eq_true rfl) ?_
    rcases px_ite h with ⟨hc5, h⟩ | ⟨hc5, h⟩
    · refine pw_icmp_ge 59 (px_at td_Re_lettersOf 16 rfl) (by decide) (fun _ => ?_) (fun hn => absurd hc5 hn)
      refine pw_L [(1, .inl v1)] [0] rfl ?_
      exact hX0 v1 (Option.some.inj h).symm
    · refine pw_icmp_ge 59 (px_at td_Re_lettersOf 16 rfl) (by decide) (fun hn => absurd hn hc5) (fun _ => ?_)
      obtain ⟨hi1, h⟩ := px_gd_e h
      refine pw_sch2 (i := 1) 1 2 (px_at td_Re_lettersOf 17 rfl) (px_at td_Re_lettersOf 18 rfl) (px_at td_Re_lettersOf 19 rfl) (px_at td_Re_lettersOf 20 rfl) (px_at td_Re_lettersOf 21 rfl) rfl rfl rfl rfl (Or.inr ⟨rfl, rfl, rfl⟩) ls_Re_204 hi1 (by decide) (Nat.le_of_ble_eq_true rfl) ?_
      refine pw_istore (L' := [(4, .inl (px_chr 1 (v2 + v3).toNatClampNeg)), (1, .inl v1), (2, .inl v2), (3, .inl v3)]) (px_at td_Re_lettersOf 22 rfl) (by decide) rfl ?_
      refine pw_iload 0 (px_at td_Re_lettersOf 23 rfl) rfl ?_
      obtain ⟨r2, hk2, h⟩ := px_b1_e h
      refine pw_cS1 [.inl (px_chr 1 (v2 + v3).toNatClampNeg)] [] (px_at td_Re_lettersOf 24 rfl) lS_Re_175 rfl rfl (Nat.le_of_ble_eq_true rfl) (by decide) (k_Re_isLetter hk2) ?_
      rcases px_ite h with ⟨hc4, h⟩ | ⟨hc4, h⟩
      · refine pw_if_eq 53 (px_at td_Re_lettersOf 25 rfl) (by decide) (fun _ => ?_) (fun hn => absurd hc4 hn)
        refine pw_L [(1, .inl v1), (2, .inl v2), (3, .inl v3)] [1, 2, 3] rfl ?_
        exact Re_lettersOf_n53_l h hC hX0
      · refine pw_if_eq 53 (px_at td_Re_lettersOf 25 rfl) (by decide) (fun hn => absurd hn hc4) (fun _ => ?_)
        refine pw_iload_n 1 (px_at td_Re_lettersOf 26 rfl) rfl rfl ?_
        refine pw_iload 0 (px_at td_Re_lettersOf 27 rfl) rfl ?_
        refine pw_iload_n 3 (px_at td_Re_lettersOf 28 rfl) rfl rfl ?_
        obtain ⟨r3, hk3, h⟩ := px_b1_e h
        refine pw_cS1 [.inl (px_chr 1 (v2 + v3).toNatClampNeg), .inl v3] [.inl v1] (px_at td_Re_lettersOf 29 rfl) lS_Re_188 rfl rfl (Nat.le_of_ble_eq_true rfl) (by decide) (k_Re_letterBits hk3) ?_
        refine pw_ior (px_at td_Re_lettersOf 30 rfl) ?_
        refine pw_istore_n (L' := [(1, .inl (v1 ||| r3)), (4, .inl (px_chr 1 (v2 + v3).toNatClampNeg)), (2, .inl v2), (3, .inl v3)]) (px_at td_Re_lettersOf 31 rfl) rfl (by decide) rfl ?_
        refine pw_L [(1, .inl (v1 ||| r3)), (2, .inl v2), (3, .inl v3)] [0, 2, 3] rfl ?_
        exact Re_lettersOf_n53_l h hC hX0
def Re_lettersOf_L9 (σ : pxS) (v2 : Int32) : (Int32 × Int32) → Option ((Int32 × Int32) ⊕ (Int32)) := fun s => Re_lettersOf_n9 σ s.1 v2 s.2
set_option maxRecDepth 100000 in
theorem Re_lettersOf_L9_l {l : Launch} {ids : List pxI} {G : pxG} {Rt : Option pxV → List pxI → pxG → pxS → Prop} {σ : pxS} {v2 : Int32} {n : Nat} {s : Int32 × Int32} {e : Int32} (h : px_it (Re_lettersOf_L9 σ v2) n s = some e) (hX0 : pw l (px_R 6) y_Re_lettersOf c_Re_lettersOf 5 (some .int) 59 [(1, .inl e)] [] ids G σ 0 0 Rt) : pw l (px_R 6) y_Re_lettersOf c_Re_lettersOf 5 (some .int) 9 [(1, .inl s.1), (2, .inl v2), (3, .inl s.2)] [] ids G σ 0 0 Rt := by
  refine px_it_rule (f := Re_lettersOf_L9 σ v2) (C := fun s => pw l (px_R 6) y_Re_lettersOf c_Re_lettersOf 5 (some .int) 9 [(1, .inl s.1), (2, .inl v2), (3, .inl s.2)] [] ids G σ 0 0 Rt) (X := fun e => (pw l (px_R 6) y_Re_lettersOf c_Re_lettersOf 5 (some .int) 59 [(1, .inl e)] [] ids G σ 0 0 Rt)) ?_ ?_ n s e h hX0
  · intro s s1 hf hC
    exact Re_lettersOf_n9_l hf (fun s2 hs => by cases hs; exact hC) (fun e he => by cases he)
  · intro s e hf hX
    exact Re_lettersOf_n9_l hf (fun s2 hs => by cases hs) (fun e1 he => by cases he; exact hX)
def F_Re_lettersOf (σ : pxS) (v0 : Int32) : Option (Int32) :=
  px_b1 (px_it (Re_lettersOf_L9 σ (v0 * 6)) px_N (0, 0)) fun e7 =>
  some (e7)
set_option maxRecDepth 100000 in
theorem e_Re_lettersOf {l : Launch} {ids : List pxI} {G : pxG} {Rt : Option pxV → List pxI → pxG → pxS → Prop} {σ : pxS} {v0 : Int32} {res : Int32} (h : F_Re_lettersOf σ v0 = some res) (hR : Rt (some (.inl res)) ids G σ) : pw l (px_R 6) y_Re_lettersOf c_Re_lettersOf 5 (some .int) 0 [(0, .inl v0)] [] ids G σ 0 0 Rt := by
  unfold F_Re_lettersOf at h
  refine pw_iconst (v := 0) (px_at td_Re_lettersOf 0 rfl) (by decide) ?_
  refine pw_istore_n (L' := [(1, .inl 0), (0, .inl v0)]) (px_at td_Re_lettersOf 1 rfl) rfl (by decide) rfl ?_
  refine pw_iload_n 1 (px_at td_Re_lettersOf 2 rfl) rfl rfl ?_
  refine pw_bipush (v := 6) (px_at td_Re_lettersOf 3 rfl) (by decide) ?_
  refine pw_imul (px_at td_Re_lettersOf 4 rfl) ?_
  refine pw_istore_n (L' := [(2, .inl (v0 * 6)), (1, .inl 0), (0, .inl v0)]) (px_at td_Re_lettersOf 5 rfl) rfl (by decide) rfl ?_
  refine pw_iconst (v := 0) (px_at td_Re_lettersOf 6 rfl) (by decide) ?_
  refine pw_istore_n (L' := [(3, .inl 0), (2, .inl (v0 * 6)), (1, .inl 0), (0, .inl v0)]) (px_at td_Re_lettersOf 7 rfl) rfl (by decide) rfl ?_
  obtain ⟨e7, he7, h⟩ := px_b1_e h
  refine pw_L [(1, .inl 0), (2, .inl (v0 * 6)), (3, .inl 0)] [2, 1, 0] rfl ?_
  refine Re_lettersOf_L9_l he7 ?_
  refine pw_iload_n 0 (px_at td_Re_lettersOf 34 rfl) rfl rfl ?_
  obtain rfl := Option.some.inj h
  exact pw_iret (px_at td_Re_lettersOf 35 rfl) rfl (Nat.le_refl 0) (Nat.le_refl 0) hR
theorem k_Re_lettersOf {l : Launch} {ids : List pxI} {G : pxG} {σ : pxS} {v0 : Int32} {res : Int32} (h : F_Re_lettersOf σ v0 = some res) : pm l y_Re_lettersOf c_Re_lettersOf 5 (some .int) (px_R 6) [.inl v0] ids G σ (px_r (some (.inl res)) ids G σ) :=
  pm_ofF (by decide +kernel) (Nat.le_of_ble_eq_true rfl) (e_Re_lettersOf h ⟨rfl, rfl, rfl, rfl⟩)
