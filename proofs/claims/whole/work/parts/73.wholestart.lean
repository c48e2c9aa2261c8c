-- ===== YOUR PART BEGINS =====
set_option maxRecDepth 8000 in
set_option maxHeartbeats 4000000 in
/-- YOUR PART: from the entry, for every script of at most 3072 ints, the law comes to its end with true ('hflags': the launch's flags, for a law that throws: no stack traces) -/
theorem whole_start {p : Program} {e : Env} {s : State} {m : MethodId} {below : List Frame} {meth : Method} {c : Code} (l : Launch) (hflags : l.flags = flags0) {b L : Nat} {xs : Nat → Int32} (hL : L ≤ 3072) (C0 : lw_At p s m meth c b L xs) : W p l e room_1 s m #[Value.ref b] below meth c s.heap [] 0 0 (lw_Z below #[Value.ref b] s) (entryFrame m ([Value.ref b] : List Value).toArray 7) := by
  have hl : l.stackTraces = false := by unfold Launch.stackTraces; rw [hflags]; decide +kernel
  obtain ⟨hx, hb, hr, hml, hown, htbl, hX, hbl, hlk, hgv⟩ := id C0
  have hown : s.vm.findClass "PowerRailsLaw" = some m.cls := hown
  have hts : ∀ w ∈ pxW, w.before #[Value.ref b] s = true := fun w hw => htbl w (pxW_tbl hw)
  have hNs := ls_Ns htbl
  have hE := ls_E hgv htbl
  have hXE := ls_XE hgv htbl
  obtain ⟨D, tA, hK⟩ := ls_K hts hNs
  obtain ⟨ci, mi, σ0, μ', hci, hmi, i6, kP, kM⟩ := ls_init l
  have hS : va_S (lw_A s) s.heap s.heap [] := va_S.rf
  have hP : va_P D classes [] s.heap := fun k q h => by simp at h
  have hD : va_D (lw_A s) [] := ⟨fun i j p q h => by simp at h, fun k q h => by simp at h⟩
  have hls := lv_entry ([.ref b]) (n := 7) (Nat.le_of_ble_eq_true rfl)
  rw [lg_entry_eq]
  generalize (lg_sl ([.ref b]) ++ List.replicate (7 - (lg_sl ([.ref b])).length) Slot.unset).toArray = ls at hls ⊢
  have hls : lv_has ls 7 [(0, .ref b)] := hls
  -- new PowerRails
  refine va_new (ci := 0) hx hb hts (px_cls (ci := 0) rfl).1 (px_ty 0) (px_cls (ci := 0) rfl).2.1 hown (hts _ (px_w 121 (by decide +kernel) (by decide +kernel))) (hts _ (ls_in 0 _ rfl)) (hts _ (px_w 100 (by decide +kernel) (by decide +kernel))) hK hP hD hS lw_hA rfl ls_fP (Nat.le_of_ble_eq_true rfl) (Nat.le_of_ble_eq_true rfl) (show decode code 0 = .ok (.new 8, 3) by decide +kernel) fun aC H1 hP1 hD1 hS1 => ?_
  have hP1 : va_P D classes (px_ws (fun _ => aC) tA [(0, 0, 0)] (px_gs cG (0, 0, 0) (.inr (.inr (0, ls_sP)))) (fun _ _ => 0)) H1 := by rw [ls_wsP]; exact hP1
  have haC : lw_A s aC := hD1.2 0 _ rfl
  refine W.widen (k := 1) (n := 13) (by decide) (by decide) ?_
  refine lv_dup hx hb (show decode code 3 = .ok (.dup, 1) by decide +kernel) rfl ?_
  refine px_icall (own := "PowerRailsLaw") (idx := 17) (nL := 7) (ad := fun _ => aC) (wr := []) hx hb hml hown hts hK hE lw_hA hP1 (ls_dA haC) hS1 (ls_clo (by decide)) List.mem_cons_self (fun k q h => by simp at h) (fun k q h => by simp at h) (show decode code 4 = .ok (.invokespecial 17, 3) by decide +kernel) lI_L17 (px_w 123 (by decide +kernel) (by decide +kernel)) (Nat.le_of_ble_eq_true rfl) hls.1 ⟨by decide, by decide⟩ ⟨by decide, by decide⟩ kP fun H2 locs2 adC had hP2 _ hS2 hcC hdC _ => ?_
  have e0 : adC (0, 0, 0) = aC := had _ List.mem_cons_self
  refine lv_astore_n (lv' := [(1, .ref (adC (0, 0, 0))), (0, .ref b)]) hx hb (show decode code 7 = .ok (.astore_n 1, 1) by decide +kernel) rfl hls (by decide) (by rw [e0]; rfl) fun ls hls => ?_
  -- new PowerRailsModel
  refine va_new (ci := 6) hx hb hts (px_cls (ci := 6) rfl).1 (px_ty 6) (px_cls (ci := 6) rfl).2.1 hown (hts _ (px_w 1119 (by decide +kernel) (by decide +kernel))) (hts _ (ls_in 6 _ rfl)) (hts _ (px_w 110 (by decide +kernel) (by decide +kernel))) hK hP2 (px_dA_D hdC) hS2 lw_hA rfl ls_fM (by decide) (by decide) (show decode code 8 = .ok (.new 18, 3) by decide +kernel) fun aM H3 hP3 hD3 hS3 => ?_
  have hPC : va_P D classes (px_ws adC tA ci cG σ0) H3 := fun k q hq => hP3 k q (by rw [List.getElem?_append_left (List.getElem?_eq_some_iff.mp hq).1]; exact hq)
  have hPM : va_P D classes (px_ws (fun _ => aM) tA [(0, 0, 0)] (px_gs mG (0, 0, 0) (.inr (.inr (6, ls_sM)))) (fun _ _ => 0)) H3 := by
    rw [ls_wsM]
    exact fun k q hq => hP3 ((px_ws adC tA ci cG σ0).length + k) q (by rw [List.getElem?_append_right (Nat.le_add_right _ _), Nat.add_sub_cancel_left]; exact hq)
  have haM : lw_A s aM := hD3.2 (px_ws adC tA ci cG σ0).length _ (by rw [List.getElem?_append_right (Nat.le_refl _), Nat.sub_self]; rfl)
  have hCM : ∀ i ∈ ci, adC i ≠ aM := fun i hi z => by
    obtain ⟨k, hk⟩ := List.getElem?_of_mem hi
    have h1 := px_ws_get (ad := adC) (tA := tA) (G := cG) (σ := σ0) hk
    have hkl := (List.getElem?_eq_some_iff.mp h1).1
    have := hD3.1 k (px_ws adC tA ci cG σ0).length _ _ (by rw [List.getElem?_append_left hkl]; exact h1) (by rw [List.getElem?_append_right (Nat.le_refl _), Nat.sub_self]; rfl) z
    omega
  refine W.widen (k := 478) (n := 9093) (by decide) (by decide) ?_
  refine lv_dup hx hb (show decode code 11 = .ok (.dup, 1) by decide +kernel) rfl ?_
  refine px_icall (own := "PowerRailsLaw") (idx := 20) (nL := 7) (ad := fun _ => aM) (wr := px_ws adC tA ci cG σ0) hx hb hml hown hts hK hE lw_hA hPM (ls_dA haM) hS3 (ls_clo (by decide)) List.mem_cons_self hPC (fun k q hq i hi => ?_) (show decode code 12 = .ok (.invokespecial 20, 3) by decide +kernel) lI_L20 (px_w 1121 (by decide +kernel) (by decide +kernel)) (Nat.le_of_ble_eq_true rfl) hls.1 ⟨by decide, by decide⟩ ⟨by decide, by decide⟩ kM fun H4 locs4 adM hadM hP4 hPC4 hS4 hcM hdM hdj4 => ?_
  · obtain ⟨j, hj, _, e1⟩ := px_ws_m hq
    rw [e1]
    exact hCM j hj
  have e1 : adM (0, 0, 0) = aM := hadM _ List.mem_cons_self
  refine lv_astore_n (lv' := [(2, .ref (adM (0, 0, 0))), (1, .ref (adC (0, 0, 0))), (0, .ref b)]) hx hb (show decode code 15 = .ok (.astore_n 2, 1) by decide +kernel) rfl hls (by decide) (by rw [e1]; rfl) fun ls hls => ?_
  -- the row for answers
  refine lv_iconst (v := 1) hx hb (show decode code 16 = .ok (.iconst 1, 1) by decide +kernel) (by decide) ?_
  have dCM : ∀ i ∈ ci, ∀ j ∈ mi, adC i ≠ adM j := fun i hi j hj => by
    obtain ⟨k, hk⟩ := List.getElem?_of_mem hi
    exact hdj4 k _ (px_ws_get (ad := adC) (tA := tA) (G := cG) (σ := σ0) hk) j hj
  have hDall : va_D (lw_A s) (px_ws adC tA ci cG σ0 ++ px_ws adM tA mi mG μ') := va_D.app (px_dA_D hdC) (px_dA_D hdM) fun i j x y hi hj => by
    obtain ⟨i', hi', _, e1⟩ := px_ws_m hi
    obtain ⟨j', hj', _, e2⟩ := px_ws_m hj
    rw [e1, e2]
    exact dCM i' hi' j' hj'
  refine va_newa (ty := .long) (N' := 1) (a0 := (1, .inr (.inl (fun _ => 0)))) hx hb (hts _ (px_w 1641 (by decide +kernel) (by decide +kernel))) rfl hK (hPC4.app hP4) hDall hS4 lw_hA (fun _ => rfl) (by decide) (by decide) (by decide) (by decide) (by decide) (show decode code 17 = .ok (.newarray .long, 2) by decide +kernel) fun q0 cL H5 hK5 hP5 hD5 hS5 => ?_
  have hq5 : ∀ (k : Nat) (q : Nat × va_E), (px_ws adC tA ci cG σ0 ++ px_ws adM tA mi mG μ')[k]? = some q → (px_ws adC tA ci cG σ0 ++ px_ws adM tA mi mG μ' ++ [(q0, .inl (cL, ((1, .inr (.inl (fun _ => 0))) : vp_A)))])[k]? = some q := fun k q hq => by
    rw [List.getElem?_append_left (List.getElem?_eq_some_iff.mp hq).1]
    exact hq
  have hqz : (px_ws adC tA ci cG σ0 ++ px_ws adM tA mi mG μ' ++ [(q0, .inl (cL, ((1, .inr (.inl (fun _ => 0))) : vp_A)))])[(px_ws adC tA ci cG σ0 ++ px_ws adM tA mi mG μ').length]? = some (q0, .inl (cL, ((1, .inr (.inl (fun _ => 0))) : vp_A))) := by
    rw [List.getElem?_append_right (Nat.le_refl _), Nat.sub_self]
    rfl
  have hne : ∀ (k : Nat) (q : Nat × va_E), (px_ws adC tA ci cG σ0 ++ px_ws adM tA mi mG μ')[k]? = some q → q0 ≠ q.1 := fun k q hq z => by
    have := hD5.1 k _ _ _ (hq5 k q hq) hqz z.symm
    have := (List.getElem?_eq_some_iff.mp hq).1
    omega
  have hC5 : ∀ (k : Nat) (q : Nat × va_E), (px_ws adC tA ci cG σ0)[k]? = some q → (px_ws adC tA ci cG σ0 ++ px_ws adM tA mi mG μ')[k]? = some q := fun k q hq => by
    rw [List.getElem?_append_left (List.getElem?_eq_some_iff.mp hq).1]
    exact hq
  have hM5 : ∀ (k : Nat) (q : Nat × va_E), (px_ws adM tA mi mG μ')[k]? = some q → (px_ws adC tA ci cG σ0 ++ px_ws adM tA mi mG μ')[(px_ws adC tA ci cG σ0).length + k]? = some q := fun k q hq => by
    rw [List.getElem?_append_right (Nat.le_add_right _ _), Nat.add_sub_cancel_left]
    exact hq
  refine lv_astore_n (lv' := [(3, .ref q0), (2, .ref (adM (0, 0, 0))), (1, .ref (adC (0, 0, 0))), (0, .ref b)]) hx hb (show decode code 19 = .ok (.astore_n 3, 1) by decide +kernel) rfl hls (by decide) rfl fun ls hls => ?_
  refine lv_iconst (v := 0) hx hb (show decode code 20 = .ok (.iconst 0, 1) by decide +kernel) (by decide) ?_
  refine lv_istore (lv' := [(4, .int (dn (6 * 0))), (3, .ref q0), (2, .ref (adM (0, 0, 0))), (1, .ref (adC (0, 0, 0))), (0, .ref b)]) hx hb (show decode code 21 = .ok (.istore 4, 2) by decide +kernel) hls (by decide) rfl fun ls hls => ?_
  subst hci
  subst hmi
  have hF : lw_F p s m meth c b L xs D tA adC adM cL q0 := ⟨C0, hL, hK5, hE, hXE, hdC, hdM, hD5.2 _ _ hqz, dCM, fun i hi => by
    obtain ⟨k, hk⟩ := List.getElem?_of_mem hi
    exact hne k _ (hC5 k _ (px_ws_get (ad := adC) (tA := tA) (G := cG) (σ := σ0) hk)), fun j hj => by
    obtain ⟨k, hk⟩ := List.getElem?_of_mem hj
    exact hne _ _ (hM5 k _ (px_ws_get (ad := adM) (tA := tA) (G := mG) (σ := μ') hk))⟩
  refine W.widen (k := 504) (n := 21418) (Nat.le_of_ble_eq_true rfl) (Nat.le_of_ble_eq_true rfl) ?_
  refine lw_loop hl hF L 0 504 21418 σ0 μ' (fun _ => 0) H5 locs4 ls (by omega) (by omega) (by decide) (by decide) ⟨fun k q hq => hP5 k q (hq5 k q (hC5 k q hq)), fun k q hq => hP5 _ q (hq5 _ q (hM5 k q hq)), fun k q hq => hP5 ((px_ws adC tA lw_ci cG σ0 ++ px_ws adM tA lw_mi mG μ').length + k) q ?_, hS5, hcC, hcM⟩ i6 (lv_sub hls [4, 3, 2, 1, 0] rfl)
  rw [List.getElem?_append_right (Nat.le_add_right _ _), Nat.add_sub_cancel_left]
  exact hq
-- ===== YOUR PART ENDS =====
