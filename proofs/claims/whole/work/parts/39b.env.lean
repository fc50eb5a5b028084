/-! the law's entry: the classes, the arrays' classes, the static tables, the texts -/
theorem sx_notStat (cA : ClassId) (n : Nat) (z : Nat → Value) : ∀ k : ClassId, (arrV cA n z).vm ≠ VmData.statics k := fun k h => by cases h
theorem sx_arr {s : State} {b : Nat} {ty : FieldType} (h : (Cond.arrayClass ty).before #[Value.ref b] s = true) (hne : ∀ C, ty ≠ .object C) : ∃ cA : ClassId, ArrOfT s cA ty ∧ va_RA s cA ty := by
  obtain ⟨cA, k, comp, h1, h2, h3⟩ := Cond.arrayClass_spec h
  refine ⟨cA, fun n z => ⟨sx_notStat cA n z, k, h2, comp, h3⟩, ?_⟩
  cases ty with
  | object C => exact absurd rfl (hne C)
  | _ => exact h1
theorem sx_arrO {s : State} {b : Nat} {C : String} (h : (Cond.arrayOver (.object C)).before #[Value.ref b] s = true) : ∃ cA : ClassId, ArrOfT s cA (.object C) ∧ va_RA s cA (.object C) := by
  obtain ⟨comp, cA, k, h1, -, h2, h3, h4⟩ := Cond.arrayOver_spec h
  exact ⟨cA, fun n z => ⟨sx_notStat cA n z, k, h2, comp, h3⟩, k, comp, h2, h3, h1, h4⟩
theorem sw_1 : Cond.laysStatic RX4 "CELLS_OF_ORDERS" "[I" ∈ lw_tbl := by decide +kernel
theorem sw_2 : Cond.laysStatic RX2 "FROM" "[I" ∈ lw_tbl := by decide +kernel
theorem sw_3 : Cond.laysStatic RX2 "LOW" "[I" ∈ lw_tbl := by decide +kernel
theorem sw_4 : Cond.laysStatic RX2 "HIGH" "[I" ∈ lw_tbl := by decide +kernel
theorem sw_5 : Cond.laysStatic "java/lang/String" "COMPACT_STRINGS" "Z" ∈ lw_tbl := by decide +kernel
theorem sw_6 : Cond.laysStatic "jdk/internal/util/Preconditions" "SIOOBE_FORMATTER" "Ljava/util/function/BiFunction;" ∈ lw_tbl := by decide +kernel
theorem sw_i4 : Cond.initialized RX4 ∈ lw_tbl := by decide +kernel
theorem sw_i2 : Cond.initialized RX2 ∈ lw_tbl := by decide +kernel
theorem sw_iS : Cond.initialized "java/lang/String" ∈ lw_tbl := by decide +kernel
theorem sw_iP : Cond.initialized "jdk/internal/util/Preconditions" ∈ lw_tbl := by decide +kernel
theorem sw_a1 : Cond.arrayClass .int ∈ lw_tbl := by decide +kernel
theorem sw_a2 : Cond.arrayClass .boolean ∈ lw_tbl := by decide +kernel
theorem sw_a3 : Cond.arrayClass .byte ∈ lw_tbl := by decide +kernel
theorem sw_a4 : Cond.arrayOver (.object "BurstSkins$Moment") ∈ lw_tbl := by decide +kernel
theorem sw_n2 : Cond.methodLinkNest RX2 53 yX4_outside RX4 ∈ lw_tbl := by decide +kernel
theorem sw_n3 : Cond.methodLinkNest RX4 24 yX2_init RX4 ∈ lw_tbl := by decide +kernel
theorem sw_n4 : Cond.methodLinkNest RX4 31 yX1_init RX4 ∈ lw_tbl := by decide +kernel
theorem sw_n5 : Cond.methodLinkNest RX4 38 yX0_init RX4 ∈ lw_tbl := by decide +kernel
theorem sw_n6 : Cond.methodLinkNest RX0 11 yX1_init RX4 ∈ lw_tbl := by decide +kernel
theorem sw_r0 : Cond.stringRef RX2 143 "skin" ∈ lw_tbl := by decide +kernel
theorem sw_r1 : Cond.stringRef RX2 144 "bent" ∈ lw_tbl := by decide +kernel
theorem sw_r2 : Cond.stringRef RX2 146 "fire" ∈ lw_tbl := by decide +kernel
theorem sw_r3 : Cond.stringRef RX2 148 "turn" ∈ lw_tbl := by decide +kernel
theorem sw_r4 : Cond.stringRef RX2 150 "prick" ∈ lw_tbl := by decide +kernel
theorem sw_r5 : Cond.stringRef RX2 152 "simmer" ∈ lw_tbl := by decide +kernel
theorem sw_c0 : Cond.instantiable RX0 5 ∈ lw_tbl := by decide +kernel
theorem sw_c1 : Cond.instantiable RX1 11 ∈ lw_tbl := by decide +kernel
theorem sw_c2 : Cond.instantiable RX2 9 ∈ lw_tbl := by decide +kernel
theorem sw_c3 : Cond.instantiable RX3 13 ∈ lw_tbl := by decide +kernel
theorem sw_c4 : Cond.instantiable RX4 14 ∈ lw_tbl := by decide +kernel
theorem sw_c5 : Cond.instantiable RX5 25 ∈ lw_tbl := by decide +kernel
def sx_fl : List Cond := flatC (Jvm.Cond.and given_1 narrow_1)
def sx_str (i : Nat) : Term := .string RX2 ([143, 144, 146, 148, 150, 152].getD i 0)
theorem sf_t1 : Cond.arrayOf (.static RX4 "CELLS_OF_ORDERS" "[I") .int ∈ sx_fl ∧ Cond.eq (.length (.static RX4 "CELLS_OF_ORDERS" "[I")) (.int (Int32.ofNat 96)) ∈ sx_fl := by decide +kernel
theorem sf_t2 : Cond.arrayOf (.static RX2 "FROM" "[I") .int ∈ sx_fl ∧ Cond.eq (.length (.static RX2 "FROM" "[I")) (.int (Int32.ofNat 7)) ∈ sx_fl := by decide +kernel
theorem sf_t3 : Cond.arrayOf (.static RX2 "LOW" "[I") .int ∈ sx_fl ∧ Cond.eq (.length (.static RX2 "LOW" "[I")) (.int (Int32.ofNat 15)) ∈ sx_fl := by decide +kernel
theorem sf_t4 : Cond.arrayOf (.static RX2 "HIGH" "[I") .int ∈ sx_fl ∧ Cond.eq (.length (.static RX2 "HIGH" "[I")) (.int (Int32.ofNat 15)) ∈ sx_fl := by decide +kernel
theorem sf_e1 : ∀ j, j < 96 → Cond.eq (.elem (.static RX4 "CELLS_OF_ORDERS" "[I") (.int (Int32.ofNat j))) (.int (x_cells j)) ∈ sx_fl := by decide +kernel
theorem sf_e2 : ∀ j, j < 7 → Cond.eq (.elem (.static RX2 "FROM" "[I") (.int (Int32.ofNat j))) (.int (x_from j)) ∈ sx_fl := by decide +kernel
theorem sf_e3 : ∀ j, j < 15 → Cond.eq (.elem (.static RX2 "LOW" "[I") (.int (Int32.ofNat j))) (.int (x_low j)) ∈ sx_fl := by decide +kernel
theorem sf_e4 : ∀ j, j < 15 → Cond.eq (.elem (.static RX2 "HIGH" "[I") (.int (Int32.ofNat j))) (.int (x_high j)) ∈ sx_fl := by decide +kernel
theorem sf_cs : Cond.eq (.static "java/lang/String" "COMPACT_STRINGS" "Z") (.int 1) ∈ sx_fl ∧ Cond.isRef (.static "jdk/internal/util/Preconditions" "SIOOBE_FORMATTER" "Ljava/util/function/BiFunction;") ∈ sx_fl := by decide +kernel
theorem sf_s1 : ∀ i, i < 6 → Cond.exactly (sx_str i) "java/lang/String" ∈ sx_fl := by decide +kernel
theorem sf_s2 : ∀ i, i < 6 → Cond.eq (.field (sx_str i) "java/lang/String" "coder" "B") (.int 0) ∈ sx_fl := by decide +kernel
theorem sf_s3 : ∀ i, i < 6 → Cond.arrayOf (.field (sx_str i) "java/lang/String" "value" "[B") .byte ∈ sx_fl := by decide +kernel
theorem sf_s4 : ∀ i, i < 6 → Cond.eq (.length (.field (sx_str i) "java/lang/String" "value" "[B")) (.int (Int32.ofNat (x_lens.getD i 0))) ∈ sx_fl := by decide +kernel
theorem sf_s5 : ∀ i, i < 6 → ∀ j, j < x_lens.getD i 0 → Cond.eq (.elem (.field (sx_str i) "java/lang/String" "value" "[B") (.int (Int32.ofNat j))) (.int ((x_byts.getD i []).getD j 0)) ∈ sx_fl := by decide +kernel
theorem sf_s6 : ∀ i, i < 6 → ∀ j, j < 6 → i < j → Cond.not (Cond.eq (sx_str i) (sx_str j)) ∈ sx_fl := by decide +kernel
theorem sx_env {p : Program} {s : State} {m : MethodId} {meth : Method} {c : Code} {b L : Nat} {xs : Nat → Int32} (C0 : lw_At p s m meth c b L xs) : ∃ g : x_G, x_K g s ∧ x_Ext g (fun q : Nat => s.heap.size ≤ q) s s.heap ∧ x_NC s := by
  obtain ⟨hx, hb, hr, hml, hown, hts, hX, hbl, hlocks, hgv⟩ := id C0
  have hfl : ∀ w ∈ sx_fl, w.before #[Value.ref b] s = true := flat_of_before _ hgv
  have hA : ∀ a : Nat, a < s.heap.size → ¬ (fun q : Nat => s.heap.size ≤ q) a := fun a h => Nat.not_le.mpr h
  obtain ⟨c0, i0, k0⟩ := u_known (C := RX0) (T := TX0) (N := 5) (n := 5) hts inX0 (hts _ sw_c0)
  obtain ⟨c1, i1, k1⟩ := u_known (C := RX1) (T := TX1) (N := 11) (n := 11) hts inX1 (hts _ sw_c1)
  obtain ⟨c2, i2, k2⟩ := u_known (C := RX2) (T := TX2) (N := 9) (n := 9) hts inX2 (hts _ sw_c2)
  obtain ⟨c3, i3, k3⟩ := u_known (C := RX3) (T := TX3) (N := 13) (n := 13) hts inX3 (hts _ sw_c3)
  obtain ⟨c4, i4, k4⟩ := u_known (C := RX4) (T := TX4) (N := 14) (n := 14) hts inX4 (hts _ sw_c4)
  obtain ⟨c5, i5, k5⟩ := u_known (C := RX5) (T := TX5) (N := 25) (n := 25) hts inX5 (hts _ sw_c5)
  obtain ⟨a0, o0, b0⟩ := sx_arr (hts _ sw_a1) (fun C h => by cases h)
  obtain ⟨a1, o1, b1⟩ := sx_arr (hts _ sw_a2) (fun C h => by cases h)
  obtain ⟨a2, o2, b2⟩ := sx_arr (hts _ sw_a3) (fun C h => by cases h)
  obtain ⟨a3, o3, b3⟩ := sx_arrO (hts _ sw_a4)
  obtain ⟨t0, e0, T0⟩ := va_Tof (f := fun j => .int (x_cells j)) (by decide) (hfl _ sf_t1.1) (va_eqt (hfl _ sf_t1.2)) (fun j hj => va_eqt (hfl _ (sf_e1 j hj))) hA
  obtain ⟨t1, e1, T1⟩ := va_Tof (f := fun j => .int (x_from j)) (by decide) (hfl _ sf_t2.1) (va_eqt (hfl _ sf_t2.2)) (fun j hj => va_eqt (hfl _ (sf_e2 j hj))) hA
  obtain ⟨t2, e2, T2⟩ := va_Tof (f := fun j => .int (x_low j)) (by decide) (hfl _ sf_t3.1) (va_eqt (hfl _ sf_t3.2)) (fun j hj => va_eqt (hfl _ (sf_e3 j hj))) hA
  obtain ⟨t3, e3, T3⟩ := va_Tof (f := fun j => .int (x_high j)) (by decide) (hfl _ sf_t4.1) (va_eqt (hfl _ sf_t4.2)) (fun j hj => va_eqt (hfl _ (sf_e4 j hj))) hA
  have hne : ∀ i j : Nat, i < 6 → j < 6 → i ≠ j → (Cond.not (Cond.eq (sx_str i) (sx_str j))).before #[Value.ref b] s = true ∨ (Cond.not (Cond.eq (sx_str j) (sx_str i))).before #[Value.ref b] s = true := by
    intro i j hi hj hij
    rcases Nat.lt_or_gt_of_ne hij with h | h
    · exact Or.inl (hfl _ (sf_s6 i hi j hj h))
    · exact Or.inr (hfl _ (sf_s6 j hj i hi h))
  obtain ⟨adK, adV, S0, S1⟩ := vk_Sof (N := 6) (tm := sx_str) (len := x_lens) (byt := x_byts) (A := fun q : Nat => s.heap.size ≤ q) (by decide +kernel) (fun i hi => hfl _ (sf_s1 i hi)) (fun i hi => hfl _ (sf_s2 i hi)) (fun i hi => hfl _ (sf_s3 i hi)) (fun i hi => hfl _ (sf_s4 i hi)) (fun i hi j hj => hfl _ (sf_s5 i hi j hj)) hne hA
  obtain ⟨f, f0, f1, f2, f3, fK, fV⟩ : ∃ f : Nat → Nat, f 0 = t0 ∧ f 1 = t1 ∧ f 2 = t2 ∧ f 3 = t3 ∧ (∀ i, i < 6 → f (10 + i) = adK i) ∧ ∀ i, i < 6 → f (20 + i) = adV i := by
    refine ⟨fun k => if k = 0 then t0 else if k = 1 then t1 else if k = 2 then t2 else if k = 3 then t3 else if k < 20 then adK (k - 10) else adV (k - 20), rfl, rfl, rfl, rfl, fun i hi => ?_, fun i hi => ?_⟩
    · dsimp only
      rw [if_neg (by omega), if_neg (by omega), if_neg (by omega), if_neg (by omega), if_pos (by omega), show 10 + i - 10 = i by omega]
    · dsimp only
      rw [if_neg (by omega), if_neg (by omega), if_neg (by omega), if_neg (by omega), if_neg (by omega), show 20 + i - 20 = i by omega]
  have S2 : vk_S 6 x_lens x_byts (fun i => f (10 + i)) (fun i => f (20 + i)) (fun q : Nat => s.heap.size ≤ q) s s.heap := by
    refine ⟨fun i hi => ?_, fun i j hi hj h => S0.2 i j hi hj ?_⟩
    · dsimp only
      rw [fK i hi, fV i hi]
      exact S0.1 i hi
    · dsimp only at h
      rw [fK i hi, fK j hj] at h
      exact h
  have S3 : ∀ i, i < 6 → (sx_str i).eval #[Value.ref b] s none [] s = some (.ref (f (10 + i))) := fun i hi => by rw [fK i hi]; exact S1 i hi
  subst f0
  subst f1
  subst f2
  subst f3
  refine ⟨((fun k => if k = 0 then c0 else if k = 1 then c1 else if k = 2 then c2 else if k = 3 then c3 else if k = 4 then c4 else c5, fun k => if k = 0 then i0 else if k = 1 then i1 else if k = 2 then i2 else if k = 3 then i3 else if k = 4 then i4 else i5), (fun k => if k = 0 then a0 else if k = 1 then a1 else if k = 2 then a2 else a3), f), ?_, ?_, ?_⟩
  · refine ⟨⟨fun k q hq => ?_, fun k q hq => ?_⟩, va_Nw.of rfl (hts _ sw_n2), vk_R.of (hts _ sw_r0) (S3 0 (by decide)), vk_R.of (hts _ sw_r1) (S3 1 (by decide)), vk_R.of (hts _ sw_r2) (S3 2 (by decide)), vk_R.of (hts _ sw_r3) (S3 3 (by decide)), vk_R.of (hts _ sw_r4) (S3 4 (by decide)), vk_R.of (hts _ sw_r5) (S3 5 (by decide))⟩
    · match k, hq with
      | 0, hq => cases hq; exact k0
      | 1, hq => cases hq; exact k1
      | 2, hq => cases hq; exact k2
      | 3, hq => cases hq; exact k3
      | 4, hq => cases hq; exact k4
      | 5, hq => cases hq; exact k5
      | k + 6, hq => simp [vwCl] at hq
    · match k, hq with
      | 0, hq => cases hq; exact ⟨o0, b0⟩
      | 1, hq => cases hq; exact ⟨o1, b1⟩
      | 2, hq => cases hq; exact ⟨o2, b2⟩
      | 3, hq => cases hq; exact ⟨o3, b3⟩
      | k + 4, hq => simp [x_tys] at hq
  · refine ⟨⟨va_Zof (hts _ sw_1) (hts _ sw_i4) e0 hA, T0⟩, ⟨va_Zof (hts _ sw_2) (hts _ sw_i2) e1 hA, T1⟩, ⟨va_Zof (hts _ sw_3) (hts _ sw_i2) e2 hA, T2⟩, ⟨va_Zof (hts _ sw_4) (hts _ sw_i2) e3 hA, T3⟩, S2, va_Zof (hts _ sw_5) (hts _ sw_iS) (va_eqt (hfl _ sf_cs.1)) hA, ?_⟩
    rcases va_Zqof (hts _ sw_6) (hts _ sw_iP) (hfl _ sf_cs.2) hA with h | ⟨t, h⟩
    · exact ⟨none, h⟩
    · exact ⟨some t, h⟩
  · exact ⟨va_Nw.of rfl (hts _ sw_n3), va_Nw.of rfl (hts _ sw_n4), va_Nw.of rfl (hts _ sw_n5), va_Nw.of rfl (hts _ sw_n6), va_AO.of (hts _ sw_a4)⟩
