/-! what stands at the start: the texts, the statics, the classes of the arrays -/
def ls_tm (i : Nat) : Term := if i = 0 then .string "PowerRailsModel" 138 else .string "PowerRails$Reader" 198
def ls_el (i : Nat) : List Cond := (List.range (px_len.getD i 0)).map fun j => Cond.eq (.elem (.field (ls_tm i) "java/lang/String" "value" "[B") (.int (Int32.ofNat j))) (.int ((px_byt.getD i []).getD j 0))
theorem ls_el0 : ∀ w ∈ ls_el 0, w ∈ flatC (Jvm.Cond.and given_1 narrow_1) := by decide +kernel
theorem ls_el1 : ∀ w ∈ ls_el 1, w ∈ flatC (Jvm.Cond.and given_1 narrow_1) := by decide +kernel
theorem ls_two {Q : Nat → Prop} (h0 : Q 0) (h1 : Q 1) : ∀ i, i < 2 → Q i := fun i hi => by
  rcases (show i = 0 ∨ i = 1 by omega) with rfl | rfl
  · exact h0
  · exact h1
section LS
variable {s : State} {b : Nat}
theorem ls_hA : ∀ a : Nat, a < s.heap.size → ¬ lw_A s a := fun a h z => absurd h (Nat.not_lt.mpr z)
theorem ls_Ns (hts : ∀ w ∈ lw_tbl, w.before #[Value.ref b] s = true) : px_Ns s := by
  refine ⟨fun q hq => ?_, fun C hC => ?_⟩
  · simp only [px_nl, List.mem_cons, List.not_mem_nil, or_false] at hq
    rcases hq with rfl | rfl | rfl | rfl <;> exact va_Nw.of rfl (hts _ (by decide +kernel))
  · simp only [px_nr, List.mem_cons, List.not_mem_nil, or_false] at hC
    rcases hC with rfl | rfl <;> exact va_AO.of (hts _ (by decide +kernel))
theorem ls_E (hgv : (Jvm.Cond.and given_1 narrow_1).before #[Value.ref b] s = true) (hts : ∀ w ∈ lw_tbl, w.before #[Value.ref b] s = true) : px_E (lw_A s) s s.heap := by
  have hs := flat_of_before _ hgv
  obtain ⟨adK, adV, h1, h2⟩ := vk_Sof (N := 2) (tm := ls_tm) (len := px_len) (byt := px_byt) (A := lw_A s) (ls_two (by decide) (by decide)) (ls_two (hs _ (by decide +kernel)) (hs _ (by decide +kernel))) (ls_two (hs _ (by decide +kernel)) (hs _ (by decide +kernel))) (ls_two (hs _ (by decide +kernel)) (hs _ (by decide +kernel))) (ls_two (hs _ (by decide +kernel)) (hs _ (by decide +kernel)))
    (ls_two (fun j hj => hs _ (ls_el0 _ (List.mem_map.mpr ⟨j, List.mem_range.mpr hj, rfl⟩))) (fun j hj => hs _ (ls_el1 _ (List.mem_map.mpr ⟨j, List.mem_range.mpr hj, rfl⟩))))
    (fun i j hi hj hne => by
      rcases (show (i = 0 ∧ j = 1) ∨ (i = 1 ∧ j = 0) by omega) with ⟨rfl, rfl⟩ | ⟨rfl, rfl⟩
      · first | exact Or.inl (hs _ (by decide +kernel)) | exact Or.inr (hs _ (by decide +kernel))
      · first | exact Or.inl (hs _ (by decide +kernel)) | exact Or.inr (hs _ (by decide +kernel))) ls_hA
  refine ⟨adK, adV, h1, vk_R.of (hts _ (by decide +kernel)) (h2 0 (by decide)), vk_R.of (hts _ (by decide +kernel)) (h2 1 (by decide)), va_Zof (hts _ (by decide +kernel)) (hts _ (by decide +kernel)) (va_eqv (u := .int 1) (hs _ (by decide +kernel)) rfl) ls_hA, va_Zqof (hts _ (by decide +kernel)) (hts _ (by decide +kernel)) (hs _ (by decide +kernel)) ls_hA, ls_Ns hts⟩
theorem ls_XE (hgv : (Jvm.Cond.and given_1 narrow_1).before #[Value.ref b] s = true) (hts : ∀ w ∈ lw_tbl, w.before #[Value.ref b] s = true) : px_XE (lw_A s) s s.heap := by
  have hs := flat_of_before _ hgv
  exact ⟨⟨va_Nw.of rfl (hts _ (by decide +kernel)), va_Nw.of rfl (hts _ (by decide +kernel)), va_Nw.of rfl (hts _ (by decide +kernel)), va_Nw.of rfl (hts _ (by decide +kernel)), va_Nw.of rfl (hts _ (by decide +kernel)), va_Nc.of (hs _ (by decide +kernel))⟩,
    vx_Zqof (hts _ (by decide +kernel)) (hts _ (by decide +kernel)) (hs _ (by decide +kernel)) ls_hA, vx_Zqof (hts _ (by decide +kernel)) (hts _ (by decide +kernel)) (hs _ (by decide +kernel)) ls_hA⟩
/-- the class of an array of numbers, of objects -/
theorem ls_prim {ty : FieldType} (hn : ∀ C, ty ≠ .object C) (h : (Cond.arrayClass ty).before #[Value.ref b] s = true) : ∃ cA : ClassId, ArrOfT s cA ty ∧ va_RA s cA ty := by
  obtain ⟨cA, kA, comp, h1, h2, h3⟩ := Cond.arrayClass_spec h
  refine ⟨cA, fun N z => ⟨(fun k h => by cases h), kA, h2, comp, h3⟩, ?_⟩
  cases ty with
  | object C => exact absurd rfl (hn C)
  | _ => exact h1
theorem ls_obj {C : String} (h : va_AO C s) : ∃ cA : ClassId, ArrOfT s cA (.object C) ∧ va_RA s cA (.object C) := by
  obtain ⟨comp, cA, kA, h1, h2, h3, h4, h5⟩ := Cond.arrayOver_spec (va_AO.use (A := #[]) h)
  exact ⟨cA, fun N z => ⟨(fun k h => by cases h), kA, h3, comp, h4⟩, kA, comp, h3, h4, h1, h5⟩
end LS
