abbrev rX5_heat : Room := { frames := 1, cells := 0, slots := 0, locals := 25 }
theorem vX5_heat : yX5_heat.cls = RX5 ∧ yX5_heat.cls ≠ "java/lang/invoke/MethodHandle" ∧ yX5_heat.cls ≠ "java/lang/invoke/VarHandle" ∧ (parseMethodDescriptor yX5_heat.desc).map (fun d => d.parameters.length) = some 2 := by decide +kernel
abbrev wX5_heat : List Cond := Cond.code yX5_heat cX5_heat 4 (some .int) :: wsL_law
def F_X5_heat (t_heats : Nat → Int32) (a1 : Int32) (a2 : Int32) : Int32 × (Nat → Int32) :=
  x_nm (F_X5_in a1.toInt64 0 3) fun z_1 => if z_1 = 0 then ((-1), t_heats) else x_nm (a1.toNatClampNeg) fun j_7 => x_nm (F_X5_in a2.toInt64 0 99) fun z_8 => if z_8 = 0 then ((-1), t_heats) else x_nm (a2.toNatClampNeg) fun j_14 => x_nm (upd t_heats j_7 (nI j_14)) fun t_heats_15 => (t_heats j_7, t_heats_15)
set_option maxHeartbeats 4000000 in
set_option maxRecDepth 100000 in
theorem m_X5_heat (l : Launch) (g : x_G) (tA tA_heats tA_text tA_is tA_doings tA_doing tA_row tA_isKept tA_best tA_orders tA_has tA_salt tA_crumbs : Nat) (t_length : Nat) (t_at : Nat) (t_begin : Nat) (t_told : Int32) (t_items : Int32) (t_when : Int32) (t_most : Int32) (t_mostAt : Int32) (t_hiss : Int32) (t_tests : Nat) (t_traced : Int64) (t_hasSkin : Int32) (t_hasBend : Int32) (t_heats : Nat → Int32) (a1 : Int32) (a2 : Int32) : x_MetI l yX5_heat wX5_heat rX5_heat g [.ref tA, .int a1, .int a2] [(tA, .inr (5, [.int (nI t_length), .ref tA_text, .int (nI t_at), .int (nI t_begin), .int t_told, .ref tA_is, .ref tA_doings, .ref tA_doing, .int t_items, .ref tA_row, .ref tA_isKept, .int t_when, .int t_most, .int t_mostAt, .int t_hiss, .ref tA_best, .ref tA_heats, .ref tA_orders, .ref tA_has, .int (nI t_tests), .ref tA_salt, .ref tA_crumbs, .long t_traced, .int t_hasSkin, .int t_hasBend])), (tA_heats, .inl (g.2.1 0, 4, .inl t_heats))] (fun (r : Int32) (u : (Nat → Int32)) => (r, u) = F_X5_heat t_heats a1 a2) (fun u => [(tA, .inr (5, [.int (nI t_length), .ref tA_text, .int (nI t_at), .int (nI t_begin), .int t_told, .ref tA_is, .ref tA_doings, .ref tA_doing, .int t_items, .ref tA_row, .ref tA_isKept, .int t_when, .int t_most, .int t_mostAt, .int t_hiss, .ref tA_best, .ref tA_heats, .ref tA_orders, .ref tA_has, .int (nI t_tests), .ref tA_salt, .ref tA_crumbs, .long t_traced, .int t_hasSkin, .int t_hasBend])), (tA_heats, .inl (g.2.1 0, 4, .inl u))]) := by
  refine x_startI (cc := cX5_heat) (maxL := 4) (by decide) rfl (Nat.le_of_ble_eq_true rfl) ?_
  intro p e s m args below meth c Q A ls H locs hx hb hml hown hts hK hX hP hD hS hA hl RET
  have hown : s.vm.findClass RX5 = some m.cls := hown
  have hl : lv_has ls 4 [(0, .ref tA), (1, .int a1), (2, .int a2)] := hl
  obtain ⟨o_0, hO⟩ : ∃ z, z = F_X5_heat t_heats a1 a2 := ⟨_, rfl⟩
  have E := hO
  rw [F_X5_heat.eq_1] at E
  refine lv_iload_n hx hb dX5_heat_0 rfl (lv_at hl 1 rfl) ?_
  refine lv_i2l (v := a1.toInt64) hx hb dX5_heat_1 rfl ?_
  refine lv_lconst (v := 0) hx hb dX5_heat_2 (by decide) ?_
  refine lv_ldc2 (v := 3) hx hb hown (hts _ kw_483) dX5_heat_3 ?_
  refine x_callS0 ⟨hx, hb, hml, hown, hts⟩ hK hX hP hD hS hA (m_X5_in l g a1.toInt64 0 3) (va_cwS 3 hts (x_gS kw_129 kw_130 kw_5 kw_131) rfl rfl rfl vX5_inS ⟨Nat.le_of_ble_eq_true rfl, Nat.le_of_ble_eq_true rfl⟩) rfl hl.1 rfl (Nat.le_of_ble_eq_true rfl) dX5_heat_6 ⟨Nat.zero_le _, Nat.zero_le _⟩ (fun z_1 _ H locs hw_2 hP hD hS => ?_)
  obtain ⟨hw_2, b_3⟩ := hw_2
  have E := x_nm_eq E hw_2
  refine lv_if_eq (tgt := 24) hx hb dX5_heat_9 (by decide) (fun c_5 => ?_) (fun c_5 => ?_)
  · have E := x_pos E c_5
    refine lv_iconst (v := (-1)) hx hb dX5_heat_24 (by decide) ?_
    exact RET (-1) t_heats H locs _ _ (E.symm.trans hO) rfl hP hD hS dX5_heat_25
  · have E := x_neg E c_5
    obtain ⟨j_7, hj⟩ : ∃ z, z = (a1).toNatClampNeg := ⟨_, rfl⟩
    have r_6_0 := (x_ins (lo := 0) (hi := 3) (by omega) (by omega) (fun q => c_5 (hw_2.trans q)))
    rw [← hj] at r_6_0
    obtain ⟨r_6_0_a, r_6_0_b, e_6_0⟩ := r_6_0
    have E := x_nm_eq E hj
    have hl : lv_has ls 4 [(0, .ref tA), (1, .int (nI j_7)), (2, .int a2)] := by rw [e_6_0] at hl; exact hl
    refine lv_iload_n hx hb dX5_heat_12 rfl (lv_at hl 2 rfl) ?_
    refine lv_i2l (v := a2.toInt64) hx hb dX5_heat_13 rfl ?_
    refine lv_lconst (v := 0) hx hb dX5_heat_14 (by decide) ?_
    refine lv_ldc2 (v := 99) hx hb hown (hts _ kw_443) dX5_heat_15 ?_
    refine x_callS0 ⟨hx, hb, hml, hown, hts⟩ hK hX hP hD hS hA (m_X5_in l g a2.toInt64 0 99) (va_cwS 3 hts (x_gS kw_129 kw_130 kw_5 kw_131) rfl rfl rfl vX5_inS ⟨Nat.le_of_ble_eq_true rfl, Nat.le_of_ble_eq_true rfl⟩) rfl hl.1 rfl (Nat.le_of_ble_eq_true rfl) dX5_heat_18 ⟨Nat.zero_le _, Nat.zero_le _⟩ (fun z_8 _ H locs hw_9 hP hD hS => ?_)
    obtain ⟨hw_9, b_10⟩ := hw_9
    have E := x_nm_eq E hw_9
    refine x_if_neI (tgt := 26) hx hb dX5_heat_21 (by decide) (fun c_12 => ?_) (fun c_12 => ?_)
    · have E := x_neg E c_12
      obtain ⟨j_14, hj⟩ : ∃ z, z = (a2).toNatClampNeg := ⟨_, rfl⟩
      have r_13_0 := (x_ins (lo := 0) (hi := 99) (by omega) (by omega) (fun q => c_12 (hw_9.trans q)))
      rw [← hj] at r_13_0
      obtain ⟨r_13_0_a, r_13_0_b, e_13_0⟩ := r_13_0
      have E := x_nm_eq E hj
      have hl : lv_has ls 4 [(0, .ref tA), (1, .int (nI j_7)), (2, .int (nI j_14))] := by rw [e_13_0] at hl; exact hl
      refine lv_aload_n hx hb dX5_heat_26 rfl (lv_at hl 0 rfl) ?_
      refine va_get (ci := 5) (v := .ref tA_heats) (C := RX5) (T := TX5) (N := 25) hx hb hts inlX5 hown hK.1 hP 0 rfl rfl 16 (by decide) (hts _ kw_101) (fun _ h9 => h9) rfl dX5_heat_27 ?_
      refine lv_iload_n hx hb dX5_heat_30 rfl (lv_at hl 1 rfl) ?_
      refine x_ialdN hx hb hK hP 1 j_7 rfl (by omega) (by decide) dX5_heat_31 ?_
      refine lv_istore_n (lv' := [(3, .int (t_heats j_7)), (0, .ref tA), (1, .int (nI j_7)), (2, .int (nI j_14))]) hx hb dX5_heat_32 rfl hl (by decide) rfl (fun ls hl => ?_)
      refine lv_aload_n hx hb dX5_heat_33 rfl (lv_at hl 1 rfl) ?_
      refine va_get (ci := 5) (v := .ref tA_heats) (C := RX5) (T := TX5) (N := 25) hx hb hts inlX5 hown hK.1 hP 0 rfl rfl 16 (by decide) (hts _ kw_101) (fun _ h9 => h9) rfl dX5_heat_34 ?_
      refine lv_iload_n hx hb dX5_heat_37 rfl (lv_at hl 2 rfl) ?_
      refine lv_iload_n hx hb dX5_heat_38 rfl (lv_at hl 3 rfl) ?_
      refine x_iastN hx hb hK hP hD hS 1 j_7 rfl (by omega) (by decide) dX5_heat_39 (fun t_heats_15 H locs hf hP hD hS => ?_)
      have hP : va_P g.1 vwCl [(tA, .inr (5, [.int (nI t_length), .ref tA_text, .int (nI t_at), .int (nI t_begin), .int t_told, .ref tA_is, .ref tA_doings, .ref tA_doing, .int t_items, .ref tA_row, .ref tA_isKept, .int t_when, .int t_most, .int t_mostAt, .int t_hiss, .ref tA_best, .ref tA_heats, .ref tA_orders, .ref tA_has, .int (nI t_tests), .ref tA_salt, .ref tA_crumbs, .long t_traced, .int t_hasSkin, .int t_hasBend])), (tA_heats, .inl (g.2.1 0, 4, .inl t_heats_15))] H := hP
      have hD : va_D A [(tA, .inr (5, [.int (nI t_length), .ref tA_text, .int (nI t_at), .int (nI t_begin), .int t_told, .ref tA_is, .ref tA_doings, .ref tA_doing, .int t_items, .ref tA_row, .ref tA_isKept, .int t_when, .int t_most, .int t_mostAt, .int t_hiss, .ref tA_best, .ref tA_heats, .ref tA_orders, .ref tA_has, .int (nI t_tests), .ref tA_salt, .ref tA_crumbs, .long t_traced, .int t_hasSkin, .int t_hasBend])), (tA_heats, .inl (g.2.1 0, 4, .inl t_heats_15))] := hD
      have E := x_nm_eq E hf
      refine lv_iload_n hx hb dX5_heat_40 rfl (lv_at hl 0 rfl) ?_
      exact RET (t_heats j_7) t_heats_15 H locs _ _ (E.symm.trans hO) rfl hP hD hS dX5_heat_41
    · have E := x_pos E c_12
      refine lv_iconst (v := (-1)) hx hb dX5_heat_24 (by decide) ?_
      exact RET (-1) t_heats H locs _ _ (E.symm.trans hO) rfl hP hD hS dX5_heat_25
abbrev rX5_even : Room := { frames := 1, cells := 0, slots := 0, locals := 25 }
theorem vX5_even : yX5_even.cls = RX5 ∧ yX5_even.cls ≠ "java/lang/invoke/MethodHandle" ∧ yX5_even.cls ≠ "java/lang/invoke/VarHandle" ∧ (parseMethodDescriptor yX5_even.desc).map (fun d => d.parameters.length) = some 2 := by decide +kernel
abbrev wX5_even : List Cond := Cond.code yX5_even cX5_even 10 (some .int) :: wsL_law
def F_X5_even_L169 (t_has_32 : Nat → Int32) : Nat → Int32 → Nat → Int32
  | 0, l8_42, k9_43 => l8_42
  | n_44 + 1, l8_42, k9_43 => if 4 ≤ k9_43 then l8_42 else x_nm (α := Int32) (if l8_42 ≤ (t_has_32 k9_43) then l8_42 else t_has_32 k9_43) fun u_47 => F_X5_even_L169 t_has_32 n_44 u_47 (k9_43 + 1)
def F_X5_even_L103 (t_heats : Nat → Int32) (k7_49 : Nat) : Nat → Nat → (Nat → Int32) → (Nat → Int32)
  | 0, k9_56, t_has_57 => t_has_57
  | n_58 + 1, k9_56, t_has_57 => if 4 ≤ k9_56 then t_has_57 else x_nm (upd t_has_57 k9_56 ((t_has_57 k9_56) + (t_heats (x_cellsN (4 * (k7_49 % 24) + k9_56))))) fun t_has_60 => F_X5_even_L103 t_heats k7_49 n_58 (k9_56 + 1) t_has_60
def F_X5_even_L94 (t_heats : Nat → Int32) (j_7 : Nat) : Nat → Nat → Nat → (Nat → Int32) → (Nat → Int32)
  | 0, k7_49, k8_50, t_has_51 => t_has_51
  | n_52 + 1, k7_49, k8_50, t_has_51 => if j_7 ≤ k8_50 then t_has_51 else x_nm (α := (Nat → Int32)) (F_X5_even_L103 t_heats k7_49 (4 + 1) 0 t_has_51) fun u_55 => F_X5_even_L94 t_heats j_7 n_52 (k7_49 / 24) (k8_50 + 1) u_55
def F_X5_even_L71 : Nat → Nat → (Nat → Int32) → (Nat → Int32)
  | 0, k8_61, t_has_62 => t_has_62
  | n_63 + 1, k8_61, t_has_62 => if 4 ≤ k8_61 then t_has_62 else x_nm (upd t_has_62 k8_61 0) fun t_has_65 => F_X5_even_L71 n_63 (k8_61 + 1) t_has_65
def F_X5_even_L58 (t_heats : Nat → Int32) (j_7 : Nat) (v_15 : Nat) : Nat → Int32 → Int32 → Nat → (Nat → Int32) → Int32 × Int32 × (Nat → Int32)
  | 0, l4_24, l5_25, k6_26, t_has_27 => (l4_24, l5_25, t_has_27)
  | n_28 + 1, l4_24, l5_25, k6_26, t_has_27 => if v_15 ≤ k6_26 then (l4_24, l5_25, t_has_27) else x_nm (α := (Nat → Int32)) (F_X5_even_L71 (4 + 1) 0 t_has_27) fun u_31 => x_nm (α := (Nat → Int32)) (F_X5_even_L94 t_heats j_7 (j_7 + 1) k6_26 0 u_31) fun u_33 => x_nm (α := Int32) (F_X5_even_L169 u_33 (4 + 1) (u_33 0) 1) fun u_35 => x_nm (α := Int32) (if u_35 ≤ l5_25 then l4_24 else nI k6_26) fun u_37 => x_nm (α := Int32) (if u_35 ≤ l5_25 then l5_25 else u_35) fun u_39 => F_X5_even_L58 t_heats j_7 v_15 n_28 u_37 u_39 (k6_26 + 1) u_33
def F_X5_even (t_heats : Nat → Int32) (t_has : Nat → Int32) (a1 : Int32) (a2 : Int32) : Int32 × (Nat → Int32) :=
  x_nm (F_X5_in a1.toInt64 1 3) fun z_1 => if z_1 = 0 then ((-1), t_has) else x_nm (a1.toNatClampNeg) fun j_7 => x_nm (F_X5_in a2.toInt64 0 1) fun z_8 => if z_8 = 0 then ((-1), t_has) else x_nm (a2.toNatClampNeg) fun j_14 => x_nm (α := Nat) (if j_7 = 1 then 24 else if j_7 = 2 then 576 else 13824) fun u_16 => x_nm (α := Int32 × Int32 × (Nat → Int32)) (F_X5_even_L58 t_heats j_7 u_16 (u_16 + 1) 0 (-1) 0 t_has) fun u_20 => x_nm (α := Int32) (if j_14 = 0 then u_20.2.1 else u_20.1) fun u_22 => (u_22, u_20.2.2)
set_option maxHeartbeats 4000000 in
set_option maxRecDepth 100000 in
theorem m_X5_even (l : Launch) (g : x_G) (tA tA_heats tA_orders tA_has tA_text tA_is tA_doings tA_doing tA_row tA_isKept tA_best tA_salt tA_crumbs : Nat) (t_length : Nat) (t_at : Nat) (t_begin : Nat) (t_told : Int32) (t_items : Int32) (t_when : Int32) (t_most : Int32) (t_mostAt : Int32) (t_hiss : Int32) (t_tests : Nat) (t_traced : Int64) (t_hasSkin : Int32) (t_hasBend : Int32) (t_heats : Nat → Int32) (t_orders : Nat → Int32) (t_has : Nat → Int32) (a1 : Int32) (a2 : Int32) (h_0 : ∀ j : Nat, j < 96 → t_orders j = x_cells j) : x_MetI l yX5_even wX5_even rX5_even g [.ref tA, .int a1, .int a2] [(tA, .inr (5, [.int (nI t_length), .ref tA_text, .int (nI t_at), .int (nI t_begin), .int t_told, .ref tA_is, .ref tA_doings, .ref tA_doing, .int t_items, .ref tA_row, .ref tA_isKept, .int t_when, .int t_most, .int t_mostAt, .int t_hiss, .ref tA_best, .ref tA_heats, .ref tA_orders, .ref tA_has, .int (nI t_tests), .ref tA_salt, .ref tA_crumbs, .long t_traced, .int t_hasSkin, .int t_hasBend])), (tA_heats, .inl (g.2.1 0, 4, .inl t_heats)), (tA_orders, .inl (g.2.1 0, 96, .inl t_orders)), (tA_has, .inl (g.2.1 0, 4, .inl t_has))] (fun (r : Int32) (u : (Nat → Int32)) => (r, u) = F_X5_even t_heats t_has a1 a2) (fun u => [(tA, .inr (5, [.int (nI t_length), .ref tA_text, .int (nI t_at), .int (nI t_begin), .int t_told, .ref tA_is, .ref tA_doings, .ref tA_doing, .int t_items, .ref tA_row, .ref tA_isKept, .int t_when, .int t_most, .int t_mostAt, .int t_hiss, .ref tA_best, .ref tA_heats, .ref tA_orders, .ref tA_has, .int (nI t_tests), .ref tA_salt, .ref tA_crumbs, .long t_traced, .int t_hasSkin, .int t_hasBend])), (tA_heats, .inl (g.2.1 0, 4, .inl t_heats)), (tA_orders, .inl (g.2.1 0, 96, .inl t_orders)), (tA_has, .inl (g.2.1 0, 4, .inl u))]) := by
  refine x_startI (cc := cX5_even) (maxL := 10) (by decide) rfl (Nat.le_of_ble_eq_true rfl) ?_
  intro p e s m args below meth c Q A ls H locs hx hb hml hown hts hK hX hP hD hS hA hl RET
  have hown : s.vm.findClass RX5 = some m.cls := hown
  have hl : lv_has ls 10 [(0, .ref tA), (1, .int a1), (2, .int a2)] := hl
  obtain ⟨o_0, hO⟩ : ∃ z, z = F_X5_even t_heats t_has a1 a2 := ⟨_, rfl⟩
  have E := hO
  rw [F_X5_even.eq_1] at E
  refine lv_iload_n hx hb dX5_even_0 rfl (lv_at hl 1 rfl) ?_
  refine lv_i2l (v := a1.toInt64) hx hb dX5_even_1 rfl ?_
  refine lv_lconst (v := 1) hx hb dX5_even_2 (by decide) ?_
  refine lv_ldc2 (v := 3) hx hb hown (hts _ kw_483) dX5_even_3 ?_
  refine x_callS0 ⟨hx, hb, hml, hown, hts⟩ hK hX hP hD hS hA (m_X5_in l g a1.toInt64 1 3) (va_cwS 3 hts (x_gS kw_129 kw_130 kw_5 kw_131) rfl rfl rfl vX5_inS ⟨Nat.le_of_ble_eq_true rfl, Nat.le_of_ble_eq_true rfl⟩) rfl hl.1 rfl (Nat.le_of_ble_eq_true rfl) dX5_even_6 ⟨Nat.zero_le _, Nat.zero_le _⟩ (fun z_1 _ H locs hw_2 hP hD hS => ?_)
  obtain ⟨hw_2, b_3⟩ := hw_2
  have E := x_nm_eq E hw_2
  refine lv_if_eq (tgt := 22) hx hb dX5_even_9 (by decide) (fun c_5 => ?_) (fun c_5 => ?_)
  · have E := x_pos E c_5
    refine lv_iconst (v := (-1)) hx hb dX5_even_22 (by decide) ?_
    exact RET (-1) t_has H locs _ _ (E.symm.trans hO) rfl hP hD hS dX5_even_23
  · have E := x_neg E c_5
    obtain ⟨j_7, hj⟩ : ∃ z, z = (a1).toNatClampNeg := ⟨_, rfl⟩
    have r_6_0 := (x_ins (lo := 1) (hi := 3) (by omega) (by omega) (fun q => c_5 (hw_2.trans q)))
    rw [← hj] at r_6_0
    obtain ⟨r_6_0_a, r_6_0_b, e_6_0⟩ := r_6_0
    have E := x_nm_eq E hj
    have hl : lv_has ls 10 [(0, .ref tA), (1, .int (nI j_7)), (2, .int a2)] := by rw [e_6_0] at hl; exact hl
    refine lv_iload_n hx hb dX5_even_12 rfl (lv_at hl 2 rfl) ?_
    refine lv_i2l (v := a2.toInt64) hx hb dX5_even_13 rfl ?_
    refine lv_lconst (v := 0) hx hb dX5_even_14 (by decide) ?_
    refine lv_lconst (v := 1) hx hb dX5_even_15 (by decide) ?_
    refine x_callS0 ⟨hx, hb, hml, hown, hts⟩ hK hX hP hD hS hA (m_X5_in l g a2.toInt64 0 1) (va_cwS 3 hts (x_gS kw_129 kw_130 kw_5 kw_131) rfl rfl rfl vX5_inS ⟨Nat.le_of_ble_eq_true rfl, Nat.le_of_ble_eq_true rfl⟩) rfl hl.1 rfl (Nat.le_of_ble_eq_true rfl) dX5_even_16 ⟨Nat.zero_le _, Nat.zero_le _⟩ (fun z_8 _ H locs hw_9 hP hD hS => ?_)
    obtain ⟨hw_9, b_10⟩ := hw_9
    have E := x_nm_eq E hw_9
    refine x_if_neI (tgt := 24) hx hb dX5_even_19 (by decide) (fun c_12 => ?_) (fun c_12 => ?_)
    · have E := x_neg E c_12
      obtain ⟨j_14, hj⟩ : ∃ z, z = (a2).toNatClampNeg := ⟨_, rfl⟩
      have r_13_0 := (x_ins (lo := 0) (hi := 1) (by omega) (by omega) (fun q => c_12 (hw_9.trans q)))
      rw [← hj] at r_13_0
      obtain ⟨r_13_0_a, r_13_0_b, e_13_0⟩ := r_13_0
      have E := x_nm_eq E hj
      have hl : lv_has ls 10 [(0, .ref tA), (1, .int (nI j_7)), (2, .int (nI j_14))] := by rw [e_13_0] at hl; exact hl
      refine lv_iload_n hx hb dX5_even_24 rfl (lv_at hl 1 rfl) ?_
      refine lv_iconst (v := 1) hx hb dX5_even_25 (by decide) ?_
      obtain ⟨o_16, E_16, E⟩ := x_nm_ex E
      have J_16 : ∀ (v_15 : Nat), o_16 = v_15 → (v_15 ≤ 13824) → ∀ (H : Heap) (locs : List Loc) (ls : Array Slot), va_P g.1 vwCl [(tA, .inr (5, [.int (nI t_length), .ref tA_text, .int (nI t_at), .int (nI t_begin), .int t_told, .ref tA_is, .ref tA_doings, .ref tA_doing, .int t_items, .ref tA_row, .ref tA_isKept, .int t_when, .int t_most, .int t_mostAt, .int t_hiss, .ref tA_best, .ref tA_heats, .ref tA_orders, .ref tA_has, .int (nI t_tests), .ref tA_salt, .ref tA_crumbs, .long t_traced, .int t_hasSkin, .int t_hasBend])), (tA_heats, .inl (g.2.1 0, 4, .inl t_heats)), (tA_orders, .inl (g.2.1 0, 96, .inl t_orders)), (tA_has, .inl (g.2.1 0, 4, .inl t_has))] H → va_D A [(tA, .inr (5, [.int (nI t_length), .ref tA_text, .int (nI t_at), .int (nI t_begin), .int t_told, .ref tA_is, .ref tA_doings, .ref tA_doing, .int t_items, .ref tA_row, .ref tA_isKept, .int t_when, .int t_most, .int t_mostAt, .int t_hiss, .ref tA_best, .ref tA_heats, .ref tA_orders, .ref tA_has, .int (nI t_tests), .ref tA_salt, .ref tA_crumbs, .long t_traced, .int t_hasSkin, .int t_hasBend])), (tA_heats, .inl (g.2.1 0, 4, .inl t_heats)), (tA_orders, .inl (g.2.1 0, 96, .inl t_orders)), (tA_has, .inl (g.2.1 0, 4, .inl t_has))] → va_S A s.heap H locs → lv_has ls 10 [(0, .ref tA), (1, .int (nI j_7)), (2, .int (nI j_14))] → W p l e rX5_even s m args below meth c H locs 0 0 Q (F0 m 48 ls [.int (nI v_15)]) := by
        intro v_15 hE f_16_0 H locs ls hP hD hS hl
        try rw [hE] at E
        refine lv_istore_n (lv' := [(3, .int (nI v_15)), (0, .ref tA), (1, .int (nI j_7)), (2, .int (nI j_14))]) hx hb dX5_even_48 rfl hl (by decide) rfl (fun ls hl => ?_)
        refine lv_iconst (v := 0) hx hb dX5_even_49 (by decide) ?_
        refine lv_istore (lv' := [(4, .int 0), (3, .int (nI v_15)), (0, .ref tA), (1, .int (nI j_7)), (2, .int (nI j_14))]) hx hb dX5_even_50 hl (by decide) rfl (fun ls hl => ?_)
        refine lv_iconst (v := (-1)) hx hb dX5_even_52 (by decide) ?_
        refine lv_istore (lv' := [(5, .int (-1)), (4, .int 0), (3, .int (nI v_15)), (0, .ref tA), (1, .int (nI j_7)), (2, .int (nI j_14))]) hx hb dX5_even_53 hl (by decide) rfl (fun ls hl => ?_)
        refine lv_iconst (v := 0) hx hb dX5_even_55 (by decide) ?_
        refine lv_istore (lv' := [(6, .int 0), (5, .int (-1)), (4, .int 0), (3, .int (nI v_15)), (0, .ref tA), (1, .int (nI j_7)), (2, .int (nI j_14))]) hx hb dX5_even_56 hl (by decide) rfl (fun ls hl => ?_)
        obtain ⟨o_20, E_20, E⟩ := x_nm_ex E
        have J_20 : ∀ (l4_17 : Int32) (l5_18 : Int32) (t_has_19 : Nat → Int32), o_20 = (l4_17, l5_18, t_has_19) → ∀ (H : Heap) (locs : List Loc) (ls : Array Slot), va_P g.1 vwCl [(tA, .inr (5, [.int (nI t_length), .ref tA_text, .int (nI t_at), .int (nI t_begin), .int t_told, .ref tA_is, .ref tA_doings, .ref tA_doing, .int t_items, .ref tA_row, .ref tA_isKept, .int t_when, .int t_most, .int t_mostAt, .int t_hiss, .ref tA_best, .ref tA_heats, .ref tA_orders, .ref tA_has, .int (nI t_tests), .ref tA_salt, .ref tA_crumbs, .long t_traced, .int t_hasSkin, .int t_hasBend])), (tA_heats, .inl (g.2.1 0, 4, .inl t_heats)), (tA_orders, .inl (g.2.1 0, 96, .inl t_orders)), (tA_has, .inl (g.2.1 0, 4, .inl t_has_19))] H → va_D A [(tA, .inr (5, [.int (nI t_length), .ref tA_text, .int (nI t_at), .int (nI t_begin), .int t_told, .ref tA_is, .ref tA_doings, .ref tA_doing, .int t_items, .ref tA_row, .ref tA_isKept, .int t_when, .int t_most, .int t_mostAt, .int t_hiss, .ref tA_best, .ref tA_heats, .ref tA_orders, .ref tA_has, .int (nI t_tests), .ref tA_salt, .ref tA_crumbs, .long t_traced, .int t_hasSkin, .int t_hasBend])), (tA_heats, .inl (g.2.1 0, 4, .inl t_heats)), (tA_orders, .inl (g.2.1 0, 96, .inl t_orders)), (tA_has, .inl (g.2.1 0, 4, .inl t_has_19))] → va_S A s.heap H locs → lv_has ls 10 [(2, .int (nI j_14)), (4, .int l4_17), (5, .int l5_18)] → W p l e rX5_even s m args below meth c H locs 0 0 Q (F0 m 245 ls []) := by
          intro l4_17 l5_18 t_has_19 hE  H locs ls hP hD hS hl
          try rw [hE] at E
          refine lv_iload_n hx hb dX5_even_245 rfl (lv_at hl 0 rfl) ?_
          obtain ⟨o_22, E_22, E⟩ := x_nm_ex E
          have J_22 : ∀ (v_21 : Int32), o_22 = v_21 → ∀ (H : Heap) (locs : List Loc) (ls : Array Slot), va_P g.1 vwCl [(tA, .inr (5, [.int (nI t_length), .ref tA_text, .int (nI t_at), .int (nI t_begin), .int t_told, .ref tA_is, .ref tA_doings, .ref tA_doing, .int t_items, .ref tA_row, .ref tA_isKept, .int t_when, .int t_most, .int t_mostAt, .int t_hiss, .ref tA_best, .ref tA_heats, .ref tA_orders, .ref tA_has, .int (nI t_tests), .ref tA_salt, .ref tA_crumbs, .long t_traced, .int t_hasSkin, .int t_hasBend])), (tA_heats, .inl (g.2.1 0, 4, .inl t_heats)), (tA_orders, .inl (g.2.1 0, 96, .inl t_orders)), (tA_has, .inl (g.2.1 0, 4, .inl t_has_19))] H → va_D A [(tA, .inr (5, [.int (nI t_length), .ref tA_text, .int (nI t_at), .int (nI t_begin), .int t_told, .ref tA_is, .ref tA_doings, .ref tA_doing, .int t_items, .ref tA_row, .ref tA_isKept, .int t_when, .int t_most, .int t_mostAt, .int t_hiss, .ref tA_best, .ref tA_heats, .ref tA_orders, .ref tA_has, .int (nI t_tests), .ref tA_salt, .ref tA_crumbs, .long t_traced, .int t_hasSkin, .int t_hasBend])), (tA_heats, .inl (g.2.1 0, 4, .inl t_heats)), (tA_orders, .inl (g.2.1 0, 96, .inl t_orders)), (tA_has, .inl (g.2.1 0, 4, .inl t_has_19))] → va_S A s.heap H locs → lv_has ls 10 [] → W p l e rX5_even s m args below meth c H locs 0 0 Q (F0 m 256 ls [.int v_21]) := by
            intro v_21 hE  H locs ls hP hD hS hl
            try rw [hE] at E
            exact RET v_21 t_has_19 H locs _ _ (E.symm.trans hO) rfl hP hD hS dX5_even_256
          have E := E_22
          refine x_if_ne (a := j_14) (tgt := 254) hx hb (by omega) dX5_even_246 (by decide) (fun c_23 => ?_) (fun c_23 => ?_)
          · have E := x_neg E c_23
            refine lv_iload hx hb dX5_even_254 (lv_at hl 1 rfl) ?_
            exact J_22 l4_17 E  H locs ls hP hD hS (lv_sub hl [] rfl)
          · have E := x_pos E c_23
            refine lv_iload hx hb dX5_even_249 (lv_at hl 2 rfl) ?_
            refine lv_goto (tgt := 256) hx hb dX5_even_251 (by decide) ?_
            exact J_22 l5_18 E  H locs ls hP hD hS (lv_sub hl [] rfl)
        have E := E_20
        have L_28 : ∀ (n_28 : Nat) (l4_24 : Int32) (l5_25 : Int32) (k6_26 : Nat) (t_has_27 : Nat → Int32), (k6_26 ≤ v_15) → ((v_15 - k6_26) < n_28) → o_20 = F_X5_even_L58 t_heats j_7 v_15 n_28 l4_24 l5_25 k6_26 t_has_27 → ∀ (H : Heap) (locs : List Loc) (ls : Array Slot), va_P g.1 vwCl [(tA, .inr (5, [.int (nI t_length), .ref tA_text, .int (nI t_at), .int (nI t_begin), .int t_told, .ref tA_is, .ref tA_doings, .ref tA_doing, .int t_items, .ref tA_row, .ref tA_isKept, .int t_when, .int t_most, .int t_mostAt, .int t_hiss, .ref tA_best, .ref tA_heats, .ref tA_orders, .ref tA_has, .int (nI t_tests), .ref tA_salt, .ref tA_crumbs, .long t_traced, .int t_hasSkin, .int t_hasBend])), (tA_heats, .inl (g.2.1 0, 4, .inl t_heats)), (tA_orders, .inl (g.2.1 0, 96, .inl t_orders)), (tA_has, .inl (g.2.1 0, 4, .inl t_has_27))] H → va_D A [(tA, .inr (5, [.int (nI t_length), .ref tA_text, .int (nI t_at), .int (nI t_begin), .int t_told, .ref tA_is, .ref tA_doings, .ref tA_doing, .int t_items, .ref tA_row, .ref tA_isKept, .int t_when, .int t_most, .int t_mostAt, .int t_hiss, .ref tA_best, .ref tA_heats, .ref tA_orders, .ref tA_has, .int (nI t_tests), .ref tA_salt, .ref tA_crumbs, .long t_traced, .int t_hasSkin, .int t_hasBend])), (tA_heats, .inl (g.2.1 0, 4, .inl t_heats)), (tA_orders, .inl (g.2.1 0, 96, .inl t_orders)), (tA_has, .inl (g.2.1 0, 4, .inl t_has_27))] → va_S A s.heap H locs → lv_has ls 10 [(0, .ref tA), (1, .int (nI j_7)), (2, .int (nI j_14)), (3, .int (nI v_15)), (4, .int l4_24), (5, .int l5_25), (6, .int (nI k6_26))] → W p l e rX5_even s m args below meth c H locs 0 0 Q (F0 m 58 ls []) := by
          intro n_28
          induction n_28 with
          | zero => intro l4_24 l5_25 k6_26 t_has_27 i_28_0 i_28_1; exact absurd i_28_1 (by omega)
          | succ n_28 ih_28 =>
            intro l4_24 l5_25 k6_26 t_has_27 i_28_0 i_28_1 E H locs ls hP hD hS hl
            rw [F_X5_even_L58.eq_2] at E
            refine lv_iload hx hb dX5_even_58 (lv_at hl 6 rfl) ?_
            refine lv_iload_n hx hb dX5_even_60 rfl (lv_at hl 3 rfl) ?_
            refine x_icmp_ge (a := k6_26) (b := v_15) (tgt := 245) hx hb (by omega) (by omega) dX5_even_61 (by decide) (fun c_29 => ?_) (fun c_29 => ?_)
            · have E := x_pos E c_29
              exact J_20 l4_24 l5_25 t_has_27 E  H locs ls hP hD hS (lv_sub hl [2, 4, 5] rfl)
            · have E := x_neg E c_29
              refine lv_iload hx hb dX5_even_64 (lv_at hl 6 rfl) ?_
              refine lv_istore (lv' := [(7, .int (nI k6_26)), (0, .ref tA), (1, .int (nI j_7)), (2, .int (nI j_14)), (3, .int (nI v_15)), (4, .int l4_24), (5, .int l5_25), (6, .int (nI k6_26))]) hx hb dX5_even_66 hl (by decide) rfl (fun ls hl => ?_)
              refine lv_iconst (v := 0) hx hb dX5_even_68 (by decide) ?_
              refine lv_istore (lv' := [(8, .int 0), (7, .int (nI k6_26)), (0, .ref tA), (1, .int (nI j_7)), (2, .int (nI j_14)), (3, .int (nI v_15)), (4, .int l4_24), (5, .int l5_25), (6, .int (nI k6_26))]) hx hb dX5_even_69 hl (by decide) rfl (fun ls hl => ?_)
              obtain ⟨o_31, E_31, E⟩ := x_nm_ex E
              have J_31 : ∀ (t_has_30 : Nat → Int32), o_31 = t_has_30 → ∀ (H : Heap) (locs : List Loc) (ls : Array Slot), va_P g.1 vwCl [(tA, .inr (5, [.int (nI t_length), .ref tA_text, .int (nI t_at), .int (nI t_begin), .int t_told, .ref tA_is, .ref tA_doings, .ref tA_doing, .int t_items, .ref tA_row, .ref tA_isKept, .int t_when, .int t_most, .int t_mostAt, .int t_hiss, .ref tA_best, .ref tA_heats, .ref tA_orders, .ref tA_has, .int (nI t_tests), .ref tA_salt, .ref tA_crumbs, .long t_traced, .int t_hasSkin, .int t_hasBend])), (tA_heats, .inl (g.2.1 0, 4, .inl t_heats)), (tA_orders, .inl (g.2.1 0, 96, .inl t_orders)), (tA_has, .inl (g.2.1 0, 4, .inl t_has_30))] H → va_D A [(tA, .inr (5, [.int (nI t_length), .ref tA_text, .int (nI t_at), .int (nI t_begin), .int t_told, .ref tA_is, .ref tA_doings, .ref tA_doing, .int t_items, .ref tA_row, .ref tA_isKept, .int t_when, .int t_most, .int t_mostAt, .int t_hiss, .ref tA_best, .ref tA_heats, .ref tA_orders, .ref tA_has, .int (nI t_tests), .ref tA_salt, .ref tA_crumbs, .long t_traced, .int t_hasSkin, .int t_hasBend])), (tA_heats, .inl (g.2.1 0, 4, .inl t_heats)), (tA_orders, .inl (g.2.1 0, 96, .inl t_orders)), (tA_has, .inl (g.2.1 0, 4, .inl t_has_30))] → va_S A s.heap H locs → lv_has ls 10 [(0, .ref tA), (1, .int (nI j_7)), (2, .int (nI j_14)), (3, .int (nI v_15)), (4, .int l4_24), (5, .int l5_25), (6, .int (nI k6_26)), (7, .int (nI k6_26))] → W p l e rX5_even s m args below meth c H locs 0 0 Q (F0 m 91 ls []) := by
                intro t_has_30 hE  H locs ls hP hD hS hl
                try rw [hE] at E
                refine lv_iconst (v := 0) hx hb dX5_even_91 (by decide) ?_
                refine lv_istore (lv' := [(8, .int 0), (0, .ref tA), (1, .int (nI j_7)), (2, .int (nI j_14)), (3, .int (nI v_15)), (4, .int l4_24), (5, .int l5_25), (6, .int (nI k6_26)), (7, .int (nI k6_26))]) hx hb dX5_even_92 hl (by decide) rfl (fun ls hl => ?_)
                obtain ⟨o_33, E_33, E⟩ := x_nm_ex E
                have J_33 : ∀ (t_has_32 : Nat → Int32), o_33 = t_has_32 → ∀ (H : Heap) (locs : List Loc) (ls : Array Slot), va_P g.1 vwCl [(tA, .inr (5, [.int (nI t_length), .ref tA_text, .int (nI t_at), .int (nI t_begin), .int t_told, .ref tA_is, .ref tA_doings, .ref tA_doing, .int t_items, .ref tA_row, .ref tA_isKept, .int t_when, .int t_most, .int t_mostAt, .int t_hiss, .ref tA_best, .ref tA_heats, .ref tA_orders, .ref tA_has, .int (nI t_tests), .ref tA_salt, .ref tA_crumbs, .long t_traced, .int t_hasSkin, .int t_hasBend])), (tA_heats, .inl (g.2.1 0, 4, .inl t_heats)), (tA_orders, .inl (g.2.1 0, 96, .inl t_orders)), (tA_has, .inl (g.2.1 0, 4, .inl t_has_32))] H → va_D A [(tA, .inr (5, [.int (nI t_length), .ref tA_text, .int (nI t_at), .int (nI t_begin), .int t_told, .ref tA_is, .ref tA_doings, .ref tA_doing, .int t_items, .ref tA_row, .ref tA_isKept, .int t_when, .int t_most, .int t_mostAt, .int t_hiss, .ref tA_best, .ref tA_heats, .ref tA_orders, .ref tA_has, .int (nI t_tests), .ref tA_salt, .ref tA_crumbs, .long t_traced, .int t_hasSkin, .int t_hasBend])), (tA_heats, .inl (g.2.1 0, 4, .inl t_heats)), (tA_orders, .inl (g.2.1 0, 96, .inl t_orders)), (tA_has, .inl (g.2.1 0, 4, .inl t_has_32))] → va_S A s.heap H locs → lv_has ls 10 [(0, .ref tA), (1, .int (nI j_7)), (2, .int (nI j_14)), (3, .int (nI v_15)), (4, .int l4_24), (5, .int l5_25), (6, .int (nI k6_26))] → W p l e rX5_even s m args below meth c H locs 0 0 Q (F0 m 158 ls []) := by
                  intro t_has_32 hE  H locs ls hP hD hS hl
                  try rw [hE] at E
                  refine lv_aload_n hx hb dX5_even_158 rfl (lv_at hl 0 rfl) ?_
                  refine va_get (ci := 5) (v := .ref tA_has) (C := RX5) (T := TX5) (N := 25) hx hb hts inlX5 hown hK.1 hP 0 rfl rfl 18 (by decide) (hts _ kw_103) (fun _ h9 => h9) rfl dX5_even_159 ?_
                  refine lv_iconst (v := 0) hx hb dX5_even_162 (by decide) ?_
                  refine x_ialdN hx hb hK hP 3 0 rfl (by omega) (by decide) dX5_even_163 ?_
                  refine lv_istore (lv' := [(8, .int (t_has_32 0)), (0, .ref tA), (1, .int (nI j_7)), (2, .int (nI j_14)), (3, .int (nI v_15)), (4, .int l4_24), (5, .int l5_25), (6, .int (nI k6_26))]) hx hb dX5_even_164 hl (by decide) rfl (fun ls hl => ?_)
                  refine lv_iconst (v := 1) hx hb dX5_even_166 (by decide) ?_
                  refine lv_istore (lv' := [(9, .int 1), (8, .int (t_has_32 0)), (0, .ref tA), (1, .int (nI j_7)), (2, .int (nI j_14)), (3, .int (nI v_15)), (4, .int l4_24), (5, .int l5_25), (6, .int (nI k6_26))]) hx hb dX5_even_167 hl (by decide) rfl (fun ls hl => ?_)
                  obtain ⟨o_35, E_35, E⟩ := x_nm_ex E
                  have J_35 : ∀ (l8_34 : Int32), o_35 = l8_34 → ∀ (H : Heap) (locs : List Loc) (ls : Array Slot), va_P g.1 vwCl [(tA, .inr (5, [.int (nI t_length), .ref tA_text, .int (nI t_at), .int (nI t_begin), .int t_told, .ref tA_is, .ref tA_doings, .ref tA_doing, .int t_items, .ref tA_row, .ref tA_isKept, .int t_when, .int t_most, .int t_mostAt, .int t_hiss, .ref tA_best, .ref tA_heats, .ref tA_orders, .ref tA_has, .int (nI t_tests), .ref tA_salt, .ref tA_crumbs, .long t_traced, .int t_hasSkin, .int t_hasBend])), (tA_heats, .inl (g.2.1 0, 4, .inl t_heats)), (tA_orders, .inl (g.2.1 0, 96, .inl t_orders)), (tA_has, .inl (g.2.1 0, 4, .inl t_has_32))] H → va_D A [(tA, .inr (5, [.int (nI t_length), .ref tA_text, .int (nI t_at), .int (nI t_begin), .int t_told, .ref tA_is, .ref tA_doings, .ref tA_doing, .int t_items, .ref tA_row, .ref tA_isKept, .int t_when, .int t_most, .int t_mostAt, .int t_hiss, .ref tA_best, .ref tA_heats, .ref tA_orders, .ref tA_has, .int (nI t_tests), .ref tA_salt, .ref tA_crumbs, .long t_traced, .int t_hasSkin, .int t_hasBend])), (tA_heats, .inl (g.2.1 0, 4, .inl t_heats)), (tA_orders, .inl (g.2.1 0, 96, .inl t_orders)), (tA_has, .inl (g.2.1 0, 4, .inl t_has_32))] → va_S A s.heap H locs → lv_has ls 10 [(0, .ref tA), (1, .int (nI j_7)), (2, .int (nI j_14)), (3, .int (nI v_15)), (4, .int l4_24), (5, .int l5_25), (6, .int (nI k6_26)), (8, .int l8_34)] → W p l e rX5_even s m args below meth c H locs 0 0 Q (F0 m 207 ls []) := by
                    intro l8_34 hE  H locs ls hP hD hS hl
                    try rw [hE] at E
                    refine lv_iload hx hb dX5_even_207 (lv_at hl 7 rfl) ?_
                    refine lv_iload hx hb dX5_even_209 (lv_at hl 5 rfl) ?_
                    obtain ⟨o_37, E_37, E⟩ := x_nm_ex E
                    have J_37 : ∀ (v_36 : Int32), o_37 = v_36 → ∀ (H : Heap) (locs : List Loc) (ls : Array Slot), va_P g.1 vwCl [(tA, .inr (5, [.int (nI t_length), .ref tA_text, .int (nI t_at), .int (nI t_begin), .int t_told, .ref tA_is, .ref tA_doings, .ref tA_doing, .int t_items, .ref tA_row, .ref tA_isKept, .int t_when, .int t_most, .int t_mostAt, .int t_hiss, .ref tA_best, .ref tA_heats, .ref tA_orders, .ref tA_has, .int (nI t_tests), .ref tA_salt, .ref tA_crumbs, .long t_traced, .int t_hasSkin, .int t_hasBend])), (tA_heats, .inl (g.2.1 0, 4, .inl t_heats)), (tA_orders, .inl (g.2.1 0, 96, .inl t_orders)), (tA_has, .inl (g.2.1 0, 4, .inl t_has_32))] H → va_D A [(tA, .inr (5, [.int (nI t_length), .ref tA_text, .int (nI t_at), .int (nI t_begin), .int t_told, .ref tA_is, .ref tA_doings, .ref tA_doing, .int t_items, .ref tA_row, .ref tA_isKept, .int t_when, .int t_most, .int t_mostAt, .int t_hiss, .ref tA_best, .ref tA_heats, .ref tA_orders, .ref tA_has, .int (nI t_tests), .ref tA_salt, .ref tA_crumbs, .long t_traced, .int t_hasSkin, .int t_hasBend])), (tA_heats, .inl (g.2.1 0, 4, .inl t_heats)), (tA_orders, .inl (g.2.1 0, 96, .inl t_orders)), (tA_has, .inl (g.2.1 0, 4, .inl t_has_32))] → va_S A s.heap H locs → lv_has ls 10 [(0, .ref tA), (1, .int (nI j_7)), (2, .int (nI j_14)), (3, .int (nI v_15)), (5, .int l5_25), (6, .int (nI k6_26)), (8, .int l8_34)] → W p l e rX5_even s m args below meth c H locs 0 0 Q (F0 m 221 ls [.int v_36]) := by
                      intro v_36 hE  H locs ls hP hD hS hl
                      try rw [hE] at E
                      refine lv_istore (lv' := [(4, .int v_36), (0, .ref tA), (1, .int (nI j_7)), (2, .int (nI j_14)), (3, .int (nI v_15)), (5, .int l5_25), (6, .int (nI k6_26)), (8, .int l8_34)]) hx hb dX5_even_221 hl (by decide) rfl (fun ls hl => ?_)
                      refine lv_iload hx hb dX5_even_223 (lv_at hl 7 rfl) ?_
                      refine lv_iload hx hb dX5_even_225 (lv_at hl 5 rfl) ?_
                      obtain ⟨o_39, E_39, E⟩ := x_nm_ex E
                      have J_39 : ∀ (v_38 : Int32), o_39 = v_38 → ∀ (H : Heap) (locs : List Loc) (ls : Array Slot), va_P g.1 vwCl [(tA, .inr (5, [.int (nI t_length), .ref tA_text, .int (nI t_at), .int (nI t_begin), .int t_told, .ref tA_is, .ref tA_doings, .ref tA_doing, .int t_items, .ref tA_row, .ref tA_isKept, .int t_when, .int t_most, .int t_mostAt, .int t_hiss, .ref tA_best, .ref tA_heats, .ref tA_orders, .ref tA_has, .int (nI t_tests), .ref tA_salt, .ref tA_crumbs, .long t_traced, .int t_hasSkin, .int t_hasBend])), (tA_heats, .inl (g.2.1 0, 4, .inl t_heats)), (tA_orders, .inl (g.2.1 0, 96, .inl t_orders)), (tA_has, .inl (g.2.1 0, 4, .inl t_has_32))] H → va_D A [(tA, .inr (5, [.int (nI t_length), .ref tA_text, .int (nI t_at), .int (nI t_begin), .int t_told, .ref tA_is, .ref tA_doings, .ref tA_doing, .int t_items, .ref tA_row, .ref tA_isKept, .int t_when, .int t_most, .int t_mostAt, .int t_hiss, .ref tA_best, .ref tA_heats, .ref tA_orders, .ref tA_has, .int (nI t_tests), .ref tA_salt, .ref tA_crumbs, .long t_traced, .int t_hasSkin, .int t_hasBend])), (tA_heats, .inl (g.2.1 0, 4, .inl t_heats)), (tA_orders, .inl (g.2.1 0, 96, .inl t_orders)), (tA_has, .inl (g.2.1 0, 4, .inl t_has_32))] → va_S A s.heap H locs → lv_has ls 10 [(0, .ref tA), (1, .int (nI j_7)), (2, .int (nI j_14)), (3, .int (nI v_15)), (4, .int v_36), (6, .int (nI k6_26))] → W p l e rX5_even s m args below meth c H locs 0 0 Q (F0 m 237 ls [.int v_38]) := by
                        intro v_38 hE  H locs ls hP hD hS hl
                        try rw [hE] at E
                        refine lv_istore (lv' := [(5, .int v_38), (0, .ref tA), (1, .int (nI j_7)), (2, .int (nI j_14)), (3, .int (nI v_15)), (4, .int v_36), (6, .int (nI k6_26))]) hx hb dX5_even_237 hl (by decide) rfl (fun ls hl => ?_)
                        refine lv_iinc (v := nI (k6_26 + 1)) (lv' := [(6, .int (nI (k6_26 + 1))), (5, .int v_38), (0, .ref tA), (1, .int (nI j_7)), (2, .int (nI j_14)), (3, .int (nI v_15)), (4, .int v_36)]) hx hb dX5_even_239 hl (k := 6) rfl (nI_1 k6_26) (by decide) rfl (fun ls hl => ?_)
                        refine lv_goto (tgt := 58) hx hb dX5_even_242 (by decide) ?_
                        exact ih_28 v_36 v_38 (k6_26 + 1) t_has_32 (by first | omega | assumption | exact Eq.trans (by assumption) (by assumption)) (by omega) E H locs ls hP hD hS (lv_sub hl [2, 3, 4, 5, 6, 1, 0] rfl)
                      have E := E_39
                      refine lv_icmp_le (tgt := 235) hx hb dX5_even_227 (by decide) (fun c_40 => ?_) (fun c_40 => ?_)
                      · have E := x_pos E c_40
                        refine lv_iload hx hb dX5_even_235 (lv_at hl 5 rfl) ?_
                        exact J_39 l5_25 E  H locs ls hP hD hS (lv_sub hl [1, 2, 3, 4, 0, 6] rfl)
                      · have E := x_neg E c_40
                        refine lv_iload hx hb dX5_even_230 (lv_at hl 7 rfl) ?_
                        refine lv_goto (tgt := 237) hx hb dX5_even_232 (by decide) ?_
                        exact J_39 l8_34 E  H locs ls hP hD hS (lv_sub hl [1, 2, 3, 4, 0, 6] rfl)
                    have E := E_37
                    refine lv_icmp_le (tgt := 219) hx hb dX5_even_211 (by decide) (fun c_41 => ?_) (fun c_41 => ?_)
                    · have E := x_pos E c_41
                      refine lv_iload hx hb dX5_even_219 (lv_at hl 4 rfl) ?_
                      exact J_37 l4_24 E  H locs ls hP hD hS (lv_sub hl [0, 1, 2, 3, 5, 6, 7] rfl)
                    · have E := x_neg E c_41
                      refine lv_iload hx hb dX5_even_214 (lv_at hl 6 rfl) ?_
                      refine lv_goto (tgt := 221) hx hb dX5_even_216 (by decide) ?_
                      exact J_37 (nI k6_26) E  H locs ls hP hD hS (lv_sub hl [0, 1, 2, 3, 5, 6, 7] rfl)
                  have E := E_35
                  have L_44 : ∀ (n_44 : Nat) (l8_42 : Int32) (k9_43 : Nat), (k9_43 ≤ 4) → ((4 - k9_43) < n_44) → o_35 = F_X5_even_L169 t_has_32 n_44 l8_42 k9_43 → ∀ (H : Heap) (locs : List Loc) (ls : Array Slot), va_P g.1 vwCl [(tA, .inr (5, [.int (nI t_length), .ref tA_text, .int (nI t_at), .int (nI t_begin), .int t_told, .ref tA_is, .ref tA_doings, .ref tA_doing, .int t_items, .ref tA_row, .ref tA_isKept, .int t_when, .int t_most, .int t_mostAt, .int t_hiss, .ref tA_best, .ref tA_heats, .ref tA_orders, .ref tA_has, .int (nI t_tests), .ref tA_salt, .ref tA_crumbs, .long t_traced, .int t_hasSkin, .int t_hasBend])), (tA_heats, .inl (g.2.1 0, 4, .inl t_heats)), (tA_orders, .inl (g.2.1 0, 96, .inl t_orders)), (tA_has, .inl (g.2.1 0, 4, .inl t_has_32))] H → va_D A [(tA, .inr (5, [.int (nI t_length), .ref tA_text, .int (nI t_at), .int (nI t_begin), .int t_told, .ref tA_is, .ref tA_doings, .ref tA_doing, .int t_items, .ref tA_row, .ref tA_isKept, .int t_when, .int t_most, .int t_mostAt, .int t_hiss, .ref tA_best, .ref tA_heats, .ref tA_orders, .ref tA_has, .int (nI t_tests), .ref tA_salt, .ref tA_crumbs, .long t_traced, .int t_hasSkin, .int t_hasBend])), (tA_heats, .inl (g.2.1 0, 4, .inl t_heats)), (tA_orders, .inl (g.2.1 0, 96, .inl t_orders)), (tA_has, .inl (g.2.1 0, 4, .inl t_has_32))] → va_S A s.heap H locs → lv_has ls 10 [(0, .ref tA), (1, .int (nI j_7)), (2, .int (nI j_14)), (3, .int (nI v_15)), (4, .int l4_24), (5, .int l5_25), (6, .int (nI k6_26)), (8, .int l8_42), (9, .int (nI k9_43))] → W p l e rX5_even s m args below meth c H locs 0 0 Q (F0 m 169 ls []) := by
                    intro n_44
                    induction n_44 with
                    | zero => intro l8_42 k9_43 i_44_0 i_44_1; exact absurd i_44_1 (by omega)
                    | succ n_44 ih_44 =>
                      intro l8_42 k9_43 i_44_0 i_44_1 E H locs ls hP hD hS hl
                      rw [F_X5_even_L169.eq_2] at E
                      refine lv_iload hx hb dX5_even_169 (lv_at hl 8 rfl) ?_
                      refine lv_iconst (v := 4) hx hb dX5_even_171 (by decide) ?_
                      refine x_icmp_ge (a := k9_43) (b := 4) (tgt := 207) hx hb (by omega) (by omega) dX5_even_172 (by decide) (fun c_45 => ?_) (fun c_45 => ?_)
                      · have E := x_pos E c_45
                        exact J_35 l8_42 E  H locs ls hP hD hS (lv_sub hl [0, 1, 2, 3, 4, 5, 6, 7] rfl)
                      · have E := x_neg E c_45
                        refine lv_aload_n hx hb dX5_even_175 rfl (lv_at hl 0 rfl) ?_
                        refine va_get (ci := 5) (v := .ref tA_has) (C := RX5) (T := TX5) (N := 25) hx hb hts inlX5 hown hK.1 hP 0 rfl rfl 18 (by decide) (hts _ kw_103) (fun _ h9 => h9) rfl dX5_even_176 ?_
                        refine lv_iload hx hb dX5_even_179 (lv_at hl 8 rfl) ?_
                        refine x_ialdN hx hb hK hP 3 k9_43 rfl (by omega) (by decide) dX5_even_181 ?_
                        refine lv_iload hx hb dX5_even_182 (lv_at hl 7 rfl) ?_
                        obtain ⟨o_47, E_47, E⟩ := x_nm_ex E
                        have J_47 : ∀ (v_46 : Int32), o_47 = v_46 → ∀ (H : Heap) (locs : List Loc) (ls : Array Slot), va_P g.1 vwCl [(tA, .inr (5, [.int (nI t_length), .ref tA_text, .int (nI t_at), .int (nI t_begin), .int t_told, .ref tA_is, .ref tA_doings, .ref tA_doing, .int t_items, .ref tA_row, .ref tA_isKept, .int t_when, .int t_most, .int t_mostAt, .int t_hiss, .ref tA_best, .ref tA_heats, .ref tA_orders, .ref tA_has, .int (nI t_tests), .ref tA_salt, .ref tA_crumbs, .long t_traced, .int t_hasSkin, .int t_hasBend])), (tA_heats, .inl (g.2.1 0, 4, .inl t_heats)), (tA_orders, .inl (g.2.1 0, 96, .inl t_orders)), (tA_has, .inl (g.2.1 0, 4, .inl t_has_32))] H → va_D A [(tA, .inr (5, [.int (nI t_length), .ref tA_text, .int (nI t_at), .int (nI t_begin), .int t_told, .ref tA_is, .ref tA_doings, .ref tA_doing, .int t_items, .ref tA_row, .ref tA_isKept, .int t_when, .int t_most, .int t_mostAt, .int t_hiss, .ref tA_best, .ref tA_heats, .ref tA_orders, .ref tA_has, .int (nI t_tests), .ref tA_salt, .ref tA_crumbs, .long t_traced, .int t_hasSkin, .int t_hasBend])), (tA_heats, .inl (g.2.1 0, 4, .inl t_heats)), (tA_orders, .inl (g.2.1 0, 96, .inl t_orders)), (tA_has, .inl (g.2.1 0, 4, .inl t_has_32))] → va_S A s.heap H locs → lv_has ls 10 [(0, .ref tA), (1, .int (nI j_7)), (2, .int (nI j_14)), (3, .int (nI v_15)), (4, .int l4_24), (5, .int l5_25), (6, .int (nI k6_26)), (9, .int (nI k9_43))] → W p l e rX5_even s m args below meth c H locs 0 0 Q (F0 m 199 ls [.int v_46]) := by
                          intro v_46 hE  H locs ls hP hD hS hl
                          try rw [hE] at E
                          refine lv_istore (lv' := [(8, .int v_46), (0, .ref tA), (1, .int (nI j_7)), (2, .int (nI j_14)), (3, .int (nI v_15)), (4, .int l4_24), (5, .int l5_25), (6, .int (nI k6_26)), (9, .int (nI k9_43))]) hx hb dX5_even_199 hl (by decide) rfl (fun ls hl => ?_)
                          refine lv_iinc (v := nI (k9_43 + 1)) (lv' := [(9, .int (nI (k9_43 + 1))), (8, .int v_46), (0, .ref tA), (1, .int (nI j_7)), (2, .int (nI j_14)), (3, .int (nI v_15)), (4, .int l4_24), (5, .int l5_25), (6, .int (nI k6_26))]) hx hb dX5_even_201 hl (k := 8) rfl (nI_1 k9_43) (by decide) rfl (fun ls hl => ?_)
                          refine lv_goto (tgt := 169) hx hb dX5_even_204 (by decide) ?_
                          exact ih_44 v_46 (k9_43 + 1) (by first | omega | assumption | exact Eq.trans (by assumption) (by assumption)) (by omega) E H locs ls hP hD hS (lv_sub hl [2, 3, 4, 5, 6, 7, 8, 1, 0] rfl)
                        have E := E_47
                        refine lv_icmp_ge (tgt := 197) hx hb dX5_even_184 (by decide) (fun c_48 => ?_) (fun c_48 => ?_)
                        · have E := x_pos E c_48
                          refine lv_iload hx hb dX5_even_197 (lv_at hl 7 rfl) ?_
                          exact J_47 l8_42 E  H locs ls hP hD hS (lv_sub hl [0, 1, 2, 3, 4, 5, 6, 8] rfl)
                        · have E := x_neg E c_48
                          refine lv_aload_n hx hb dX5_even_187 rfl (lv_at hl 0 rfl) ?_
                          refine va_get (ci := 5) (v := .ref tA_has) (C := RX5) (T := TX5) (N := 25) hx hb hts inlX5 hown hK.1 hP 0 rfl rfl 18 (by decide) (hts _ kw_103) (fun _ h9 => h9) rfl dX5_even_188 ?_
                          refine lv_iload hx hb dX5_even_191 (lv_at hl 8 rfl) ?_
                          refine x_ialdN hx hb hK hP 3 k9_43 rfl (by omega) (by decide) dX5_even_193 ?_
                          refine lv_goto (tgt := 199) hx hb dX5_even_194 (by decide) ?_
                          exact J_47 (t_has_32 k9_43) E  H locs ls hP hD hS (lv_sub hl [0, 1, 2, 3, 4, 5, 6, 8] rfl)
                  exact L_44 (4 + 1) (t_has_32 0) 1 (by first | omega | assumption | rfl) (by omega) E H locs ls hP hD hS (lv_sub hl [2, 3, 4, 5, 6, 7, 8, 1, 0] rfl)
                have E := E_33
                have L_52 : ∀ (n_52 : Nat) (k7_49 : Nat) (k8_50 : Nat) (t_has_51 : Nat → Int32), (k8_50 ≤ j_7) → (k7_49 < 13824) → ((j_7 - k8_50) < n_52) → o_33 = F_X5_even_L94 t_heats j_7 n_52 k7_49 k8_50 t_has_51 → ∀ (H : Heap) (locs : List Loc) (ls : Array Slot), va_P g.1 vwCl [(tA, .inr (5, [.int (nI t_length), .ref tA_text, .int (nI t_at), .int (nI t_begin), .int t_told, .ref tA_is, .ref tA_doings, .ref tA_doing, .int t_items, .ref tA_row, .ref tA_isKept, .int t_when, .int t_most, .int t_mostAt, .int t_hiss, .ref tA_best, .ref tA_heats, .ref tA_orders, .ref tA_has, .int (nI t_tests), .ref tA_salt, .ref tA_crumbs, .long t_traced, .int t_hasSkin, .int t_hasBend])), (tA_heats, .inl (g.2.1 0, 4, .inl t_heats)), (tA_orders, .inl (g.2.1 0, 96, .inl t_orders)), (tA_has, .inl (g.2.1 0, 4, .inl t_has_51))] H → va_D A [(tA, .inr (5, [.int (nI t_length), .ref tA_text, .int (nI t_at), .int (nI t_begin), .int t_told, .ref tA_is, .ref tA_doings, .ref tA_doing, .int t_items, .ref tA_row, .ref tA_isKept, .int t_when, .int t_most, .int t_mostAt, .int t_hiss, .ref tA_best, .ref tA_heats, .ref tA_orders, .ref tA_has, .int (nI t_tests), .ref tA_salt, .ref tA_crumbs, .long t_traced, .int t_hasSkin, .int t_hasBend])), (tA_heats, .inl (g.2.1 0, 4, .inl t_heats)), (tA_orders, .inl (g.2.1 0, 96, .inl t_orders)), (tA_has, .inl (g.2.1 0, 4, .inl t_has_51))] → va_S A s.heap H locs → lv_has ls 10 [(0, .ref tA), (1, .int (nI j_7)), (2, .int (nI j_14)), (3, .int (nI v_15)), (4, .int l4_24), (5, .int l5_25), (6, .int (nI k6_26)), (7, .int (nI k7_49)), (8, .int (nI k8_50))] → W p l e rX5_even s m args below meth c H locs 0 0 Q (F0 m 94 ls []) := by
                  intro n_52
                  induction n_52 with
                  | zero => intro k7_49 k8_50 t_has_51 i_52_0 i_52_1 i_52_2; exact absurd i_52_2 (by omega)
                  | succ n_52 ih_52 =>
                    intro k7_49 k8_50 t_has_51 i_52_0 i_52_1 i_52_2 E H locs ls hP hD hS hl
                    rw [F_X5_even_L94.eq_2] at E
                    refine lv_iload hx hb dX5_even_94 (lv_at hl 8 rfl) ?_
                    refine lv_iload_n hx hb dX5_even_96 rfl (lv_at hl 1 rfl) ?_
                    refine x_icmp_ge (a := k8_50) (b := j_7) (tgt := 158) hx hb (by omega) (by omega) dX5_even_97 (by decide) (fun c_53 => ?_) (fun c_53 => ?_)
                    · have E := x_pos E c_53
                      exact J_33 t_has_51 E  H locs ls hP hD hS (lv_sub hl [0, 1, 2, 3, 4, 5, 6] rfl)
                    · have E := x_neg E c_53
                      refine lv_iconst (v := 0) hx hb dX5_even_100 (by decide) ?_
                      refine lv_istore (lv' := [(9, .int 0), (0, .ref tA), (1, .int (nI j_7)), (2, .int (nI j_14)), (3, .int (nI v_15)), (4, .int l4_24), (5, .int l5_25), (6, .int (nI k6_26)), (7, .int (nI k7_49)), (8, .int (nI k8_50))]) hx hb dX5_even_101 hl (by decide) rfl (fun ls hl => ?_)
                      obtain ⟨o_55, E_55, E⟩ := x_nm_ex E
                      have J_55 : ∀ (t_has_54 : Nat → Int32), o_55 = t_has_54 → ∀ (H : Heap) (locs : List Loc) (ls : Array Slot), va_P g.1 vwCl [(tA, .inr (5, [.int (nI t_length), .ref tA_text, .int (nI t_at), .int (nI t_begin), .int t_told, .ref tA_is, .ref tA_doings, .ref tA_doing, .int t_items, .ref tA_row, .ref tA_isKept, .int t_when, .int t_most, .int t_mostAt, .int t_hiss, .ref tA_best, .ref tA_heats, .ref tA_orders, .ref tA_has, .int (nI t_tests), .ref tA_salt, .ref tA_crumbs, .long t_traced, .int t_hasSkin, .int t_hasBend])), (tA_heats, .inl (g.2.1 0, 4, .inl t_heats)), (tA_orders, .inl (g.2.1 0, 96, .inl t_orders)), (tA_has, .inl (g.2.1 0, 4, .inl t_has_54))] H → va_D A [(tA, .inr (5, [.int (nI t_length), .ref tA_text, .int (nI t_at), .int (nI t_begin), .int t_told, .ref tA_is, .ref tA_doings, .ref tA_doing, .int t_items, .ref tA_row, .ref tA_isKept, .int t_when, .int t_most, .int t_mostAt, .int t_hiss, .ref tA_best, .ref tA_heats, .ref tA_orders, .ref tA_has, .int (nI t_tests), .ref tA_salt, .ref tA_crumbs, .long t_traced, .int t_hasSkin, .int t_hasBend])), (tA_heats, .inl (g.2.1 0, 4, .inl t_heats)), (tA_orders, .inl (g.2.1 0, 96, .inl t_orders)), (tA_has, .inl (g.2.1 0, 4, .inl t_has_54))] → va_S A s.heap H locs → lv_has ls 10 [(0, .ref tA), (1, .int (nI j_7)), (2, .int (nI j_14)), (3, .int (nI v_15)), (4, .int l4_24), (5, .int l5_25), (6, .int (nI k6_26)), (7, .int (nI k7_49)), (8, .int (nI k8_50))] → W p l e rX5_even s m args below meth c H locs 0 0 Q (F0 m 145 ls []) := by
                        intro t_has_54 hE  H locs ls hP hD hS hl
                        try rw [hE] at E
                        refine lv_iload hx hb dX5_even_145 (lv_at hl 7 rfl) ?_
                        refine lv_bipush (v := 24) hx hb dX5_even_147 (by decide) ?_
                        refine lv_idiv hx hb dX5_even_149 (by decide) ?_
                        refine x_eqi (pk_div (a := k7_49) (d := 24) (by omega) (by omega) (by omega)) ?_
                        refine lv_istore (lv' := [(7, .int (nI (k7_49 / 24))), (0, .ref tA), (1, .int (nI j_7)), (2, .int (nI j_14)), (3, .int (nI v_15)), (4, .int l4_24), (5, .int l5_25), (6, .int (nI k6_26)), (8, .int (nI k8_50))]) hx hb dX5_even_150 hl (by decide) rfl (fun ls hl => ?_)
                        refine lv_iinc (v := nI (k8_50 + 1)) (lv' := [(8, .int (nI (k8_50 + 1))), (7, .int (nI (k7_49 / 24))), (0, .ref tA), (1, .int (nI j_7)), (2, .int (nI j_14)), (3, .int (nI v_15)), (4, .int l4_24), (5, .int l5_25), (6, .int (nI k6_26))]) hx hb dX5_even_152 hl (k := 8) rfl (nI_1 k8_50) (by decide) rfl (fun ls hl => ?_)
                        refine lv_goto (tgt := 94) hx hb dX5_even_155 (by decide) ?_
                        exact ih_52 (k7_49 / 24) (k8_50 + 1) t_has_54 (by first | omega | assumption | exact Eq.trans (by assumption) (by assumption)) (by first | omega | assumption | exact Eq.trans (by assumption) (by assumption)) (by omega) E H locs ls hP hD hS (lv_sub hl [2, 3, 4, 5, 6, 7, 8, 1, 0] rfl)
                      have E := E_55
                      have L_58 : ∀ (n_58 : Nat) (k9_56 : Nat) (t_has_57 : Nat → Int32), (k9_56 ≤ 4) → ((4 - k9_56) < n_58) → o_55 = F_X5_even_L103 t_heats k7_49 n_58 k9_56 t_has_57 → ∀ (H : Heap) (locs : List Loc) (ls : Array Slot), va_P g.1 vwCl [(tA, .inr (5, [.int (nI t_length), .ref tA_text, .int (nI t_at), .int (nI t_begin), .int t_told, .ref tA_is, .ref tA_doings, .ref tA_doing, .int t_items, .ref tA_row, .ref tA_isKept, .int t_when, .int t_most, .int t_mostAt, .int t_hiss, .ref tA_best, .ref tA_heats, .ref tA_orders, .ref tA_has, .int (nI t_tests), .ref tA_salt, .ref tA_crumbs, .long t_traced, .int t_hasSkin, .int t_hasBend])), (tA_heats, .inl (g.2.1 0, 4, .inl t_heats)), (tA_orders, .inl (g.2.1 0, 96, .inl t_orders)), (tA_has, .inl (g.2.1 0, 4, .inl t_has_57))] H → va_D A [(tA, .inr (5, [.int (nI t_length), .ref tA_text, .int (nI t_at), .int (nI t_begin), .int t_told, .ref tA_is, .ref tA_doings, .ref tA_doing, .int t_items, .ref tA_row, .ref tA_isKept, .int t_when, .int t_most, .int t_mostAt, .int t_hiss, .ref tA_best, .ref tA_heats, .ref tA_orders, .ref tA_has, .int (nI t_tests), .ref tA_salt, .ref tA_crumbs, .long t_traced, .int t_hasSkin, .int t_hasBend])), (tA_heats, .inl (g.2.1 0, 4, .inl t_heats)), (tA_orders, .inl (g.2.1 0, 96, .inl t_orders)), (tA_has, .inl (g.2.1 0, 4, .inl t_has_57))] → va_S A s.heap H locs → lv_has ls 10 [(0, .ref tA), (1, .int (nI j_7)), (2, .int (nI j_14)), (3, .int (nI v_15)), (4, .int l4_24), (5, .int l5_25), (6, .int (nI k6_26)), (7, .int (nI k7_49)), (8, .int (nI k8_50)), (9, .int (nI k9_56))] → W p l e rX5_even s m args below meth c H locs 0 0 Q (F0 m 103 ls []) := by
                        intro n_58
                        induction n_58 with
                        | zero => intro k9_56 t_has_57 i_58_0 i_58_1; exact absurd i_58_1 (by omega)
                        | succ n_58 ih_58 =>
                          intro k9_56 t_has_57 i_58_0 i_58_1 E H locs ls hP hD hS hl
                          rw [F_X5_even_L103.eq_2] at E
                          refine lv_iload hx hb dX5_even_103 (lv_at hl 9 rfl) ?_
                          refine lv_iconst (v := 4) hx hb dX5_even_105 (by decide) ?_
                          refine x_icmp_ge (a := k9_56) (b := 4) (tgt := 145) hx hb (by omega) (by omega) dX5_even_106 (by decide) (fun c_59 => ?_) (fun c_59 => ?_)
                          · have E := x_pos E c_59
                            exact J_55 t_has_57 E  H locs ls hP hD hS (lv_sub hl [0, 1, 2, 3, 4, 5, 6, 7, 8] rfl)
                          · have E := x_neg E c_59
                            refine lv_aload_n hx hb dX5_even_109 rfl (lv_at hl 0 rfl) ?_
                            refine va_get (ci := 5) (v := .ref tA_has) (C := RX5) (T := TX5) (N := 25) hx hb hts inlX5 hown hK.1 hP 0 rfl rfl 18 (by decide) (hts _ kw_103) (fun _ h9 => h9) rfl dX5_even_110 ?_
                            refine lv_iload hx hb dX5_even_113 (lv_at hl 9 rfl) ?_
                            refine lv_dup2_11 hx hb dX5_even_115 rfl rfl ?_
                            refine x_ialdN hx hb hK hP 3 k9_56 rfl (by omega) (by decide) dX5_even_116 ?_
                            refine lv_aload_n hx hb dX5_even_117 rfl (lv_at hl 0 rfl) ?_
                            refine va_get (ci := 5) (v := .ref tA_heats) (C := RX5) (T := TX5) (N := 25) hx hb hts inlX5 hown hK.1 hP 0 rfl rfl 16 (by decide) (hts _ kw_101) (fun _ h9 => h9) rfl dX5_even_118 ?_
                            refine lv_aload_n hx hb dX5_even_121 rfl (lv_at hl 0 rfl) ?_
                            refine va_get (ci := 5) (v := .ref tA_orders) (C := RX5) (T := TX5) (N := 25) hx hb hts inlX5 hown hK.1 hP 0 rfl rfl 17 (by decide) (hts _ kw_102) (fun _ h9 => h9) rfl dX5_even_122 ?_
                            refine lv_iconst (v := 4) hx hb dX5_even_125 (by decide) ?_
                            refine lv_iload hx hb dX5_even_126 (lv_at hl 7 rfl) ?_
                            refine lv_bipush (v := 24) hx hb dX5_even_128 (by decide) ?_
                            refine lv_irem hx hb dX5_even_130 (by decide) ?_
                            refine x_eqi (pk_rem (a := k7_49) (d := 24) (by omega) (by omega) (by omega)) ?_
                            refine lv_imul hx hb dX5_even_131 ?_
                            refine x_eqi (pk_mul 4 (k7_49 % 24)) ?_
                            refine lv_iload hx hb dX5_even_132 (lv_at hl 9 rfl) ?_
                            refine lv_iadd hx hb dX5_even_134 ?_
                            refine x_eqi (nI_add (4 * (k7_49 % 24)) k9_56) ?_
                            refine x_ialdN hx hb hK hP 2 ((4 * (k7_49 % 24)) + k9_56) rfl (by omega) (by decide) dX5_even_135 ?_
                            refine x_eqi ((h_0 _ (by omega)).trans (x_cells_nat (4 * (k7_49 % 24) + k9_56) (by omega)).1) ?_
                            have hcl := (x_cells_nat (4 * (k7_49 % 24) + k9_56) (by omega)).2
                            refine x_ialdN hx hb hK hP 1 (x_cellsN (4 * (k7_49 % 24) + k9_56)) rfl (by omega) (by decide) dX5_even_136 ?_
                            refine lv_iadd hx hb dX5_even_137 ?_
                            refine x_iastN hx hb hK hP hD hS 3 k9_56 rfl (by omega) (by decide) dX5_even_138 (fun t_has_60 H locs hf hP hD hS => ?_)
                            have hP : va_P g.1 vwCl [(tA, .inr (5, [.int (nI t_length), .ref tA_text, .int (nI t_at), .int (nI t_begin), .int t_told, .ref tA_is, .ref tA_doings, .ref tA_doing, .int t_items, .ref tA_row, .ref tA_isKept, .int t_when, .int t_most, .int t_mostAt, .int t_hiss, .ref tA_best, .ref tA_heats, .ref tA_orders, .ref tA_has, .int (nI t_tests), .ref tA_salt, .ref tA_crumbs, .long t_traced, .int t_hasSkin, .int t_hasBend])), (tA_heats, .inl (g.2.1 0, 4, .inl t_heats)), (tA_orders, .inl (g.2.1 0, 96, .inl t_orders)), (tA_has, .inl (g.2.1 0, 4, .inl t_has_60))] H := hP
                            have hD : va_D A [(tA, .inr (5, [.int (nI t_length), .ref tA_text, .int (nI t_at), .int (nI t_begin), .int t_told, .ref tA_is, .ref tA_doings, .ref tA_doing, .int t_items, .ref tA_row, .ref tA_isKept, .int t_when, .int t_most, .int t_mostAt, .int t_hiss, .ref tA_best, .ref tA_heats, .ref tA_orders, .ref tA_has, .int (nI t_tests), .ref tA_salt, .ref tA_crumbs, .long t_traced, .int t_hasSkin, .int t_hasBend])), (tA_heats, .inl (g.2.1 0, 4, .inl t_heats)), (tA_orders, .inl (g.2.1 0, 96, .inl t_orders)), (tA_has, .inl (g.2.1 0, 4, .inl t_has_60))] := hD
                            have E := x_nm_eq E hf
                            refine lv_iinc (v := nI (k9_56 + 1)) (lv' := [(9, .int (nI (k9_56 + 1))), (0, .ref tA), (1, .int (nI j_7)), (2, .int (nI j_14)), (3, .int (nI v_15)), (4, .int l4_24), (5, .int l5_25), (6, .int (nI k6_26)), (7, .int (nI k7_49)), (8, .int (nI k8_50))]) hx hb dX5_even_139 hl (k := 9) rfl (nI_1 k9_56) (by decide) rfl (fun ls hl => ?_)
                            refine lv_goto (tgt := 103) hx hb dX5_even_142 (by decide) ?_
                            exact ih_58 (k9_56 + 1) t_has_60 (by first | omega | assumption | exact Eq.trans (by assumption) (by assumption)) (by omega) E H locs ls hP hD hS (lv_sub hl [1, 2, 3, 4, 5, 6, 7, 8, 9, 0] rfl)
                      exact L_58 (4 + 1) 0 t_has_51 (by first | omega | assumption | rfl) (by omega) E H locs ls hP hD hS (lv_sub hl [1, 2, 3, 4, 5, 6, 7, 8, 9, 0] rfl)
                exact L_52 (j_7 + 1) k6_26 0 t_has_30 (by first | omega | assumption | rfl) (by first | omega | assumption | rfl) (by omega) E H locs ls hP hD hS (lv_sub hl [1, 2, 3, 4, 5, 6, 7, 8, 0] rfl)
              have E := E_31
              have L_63 : ∀ (n_63 : Nat) (k8_61 : Nat) (t_has_62 : Nat → Int32), (k8_61 ≤ 4) → ((4 - k8_61) < n_63) → o_31 = F_X5_even_L71 n_63 k8_61 t_has_62 → ∀ (H : Heap) (locs : List Loc) (ls : Array Slot), va_P g.1 vwCl [(tA, .inr (5, [.int (nI t_length), .ref tA_text, .int (nI t_at), .int (nI t_begin), .int t_told, .ref tA_is, .ref tA_doings, .ref tA_doing, .int t_items, .ref tA_row, .ref tA_isKept, .int t_when, .int t_most, .int t_mostAt, .int t_hiss, .ref tA_best, .ref tA_heats, .ref tA_orders, .ref tA_has, .int (nI t_tests), .ref tA_salt, .ref tA_crumbs, .long t_traced, .int t_hasSkin, .int t_hasBend])), (tA_heats, .inl (g.2.1 0, 4, .inl t_heats)), (tA_orders, .inl (g.2.1 0, 96, .inl t_orders)), (tA_has, .inl (g.2.1 0, 4, .inl t_has_62))] H → va_D A [(tA, .inr (5, [.int (nI t_length), .ref tA_text, .int (nI t_at), .int (nI t_begin), .int t_told, .ref tA_is, .ref tA_doings, .ref tA_doing, .int t_items, .ref tA_row, .ref tA_isKept, .int t_when, .int t_most, .int t_mostAt, .int t_hiss, .ref tA_best, .ref tA_heats, .ref tA_orders, .ref tA_has, .int (nI t_tests), .ref tA_salt, .ref tA_crumbs, .long t_traced, .int t_hasSkin, .int t_hasBend])), (tA_heats, .inl (g.2.1 0, 4, .inl t_heats)), (tA_orders, .inl (g.2.1 0, 96, .inl t_orders)), (tA_has, .inl (g.2.1 0, 4, .inl t_has_62))] → va_S A s.heap H locs → lv_has ls 10 [(0, .ref tA), (1, .int (nI j_7)), (2, .int (nI j_14)), (3, .int (nI v_15)), (4, .int l4_24), (5, .int l5_25), (6, .int (nI k6_26)), (7, .int (nI k6_26)), (8, .int (nI k8_61))] → W p l e rX5_even s m args below meth c H locs 0 0 Q (F0 m 71 ls []) := by
                intro n_63
                induction n_63 with
                | zero => intro k8_61 t_has_62 i_63_0 i_63_1; exact absurd i_63_1 (by omega)
                | succ n_63 ih_63 =>
                  intro k8_61 t_has_62 i_63_0 i_63_1 E H locs ls hP hD hS hl
                  rw [F_X5_even_L71.eq_2] at E
                  refine lv_iload hx hb dX5_even_71 (lv_at hl 8 rfl) ?_
                  refine lv_iconst (v := 4) hx hb dX5_even_73 (by decide) ?_
                  refine x_icmp_ge (a := k8_61) (b := 4) (tgt := 91) hx hb (by omega) (by omega) dX5_even_74 (by decide) (fun c_64 => ?_) (fun c_64 => ?_)
                  · have E := x_pos E c_64
                    exact J_31 t_has_62 E  H locs ls hP hD hS (lv_sub hl [0, 1, 2, 3, 4, 5, 6, 7] rfl)
                  · have E := x_neg E c_64
                    refine lv_aload_n hx hb dX5_even_77 rfl (lv_at hl 0 rfl) ?_
                    refine va_get (ci := 5) (v := .ref tA_has) (C := RX5) (T := TX5) (N := 25) hx hb hts inlX5 hown hK.1 hP 0 rfl rfl 18 (by decide) (hts _ kw_103) (fun _ h9 => h9) rfl dX5_even_78 ?_
                    refine lv_iload hx hb dX5_even_81 (lv_at hl 8 rfl) ?_
                    refine lv_iconst (v := 0) hx hb dX5_even_83 (by decide) ?_
                    refine x_iastN hx hb hK hP hD hS 3 k8_61 rfl (by omega) (by decide) dX5_even_84 (fun t_has_65 H locs hf hP hD hS => ?_)
                    have hP : va_P g.1 vwCl [(tA, .inr (5, [.int (nI t_length), .ref tA_text, .int (nI t_at), .int (nI t_begin), .int t_told, .ref tA_is, .ref tA_doings, .ref tA_doing, .int t_items, .ref tA_row, .ref tA_isKept, .int t_when, .int t_most, .int t_mostAt, .int t_hiss, .ref tA_best, .ref tA_heats, .ref tA_orders, .ref tA_has, .int (nI t_tests), .ref tA_salt, .ref tA_crumbs, .long t_traced, .int t_hasSkin, .int t_hasBend])), (tA_heats, .inl (g.2.1 0, 4, .inl t_heats)), (tA_orders, .inl (g.2.1 0, 96, .inl t_orders)), (tA_has, .inl (g.2.1 0, 4, .inl t_has_65))] H := hP
                    have hD : va_D A [(tA, .inr (5, [.int (nI t_length), .ref tA_text, .int (nI t_at), .int (nI t_begin), .int t_told, .ref tA_is, .ref tA_doings, .ref tA_doing, .int t_items, .ref tA_row, .ref tA_isKept, .int t_when, .int t_most, .int t_mostAt, .int t_hiss, .ref tA_best, .ref tA_heats, .ref tA_orders, .ref tA_has, .int (nI t_tests), .ref tA_salt, .ref tA_crumbs, .long t_traced, .int t_hasSkin, .int t_hasBend])), (tA_heats, .inl (g.2.1 0, 4, .inl t_heats)), (tA_orders, .inl (g.2.1 0, 96, .inl t_orders)), (tA_has, .inl (g.2.1 0, 4, .inl t_has_65))] := hD
                    have E := x_nm_eq E hf
                    refine lv_iinc (v := nI (k8_61 + 1)) (lv' := [(8, .int (nI (k8_61 + 1))), (0, .ref tA), (1, .int (nI j_7)), (2, .int (nI j_14)), (3, .int (nI v_15)), (4, .int l4_24), (5, .int l5_25), (6, .int (nI k6_26)), (7, .int (nI k6_26))]) hx hb dX5_even_85 hl (k := 8) rfl (nI_1 k8_61) (by decide) rfl (fun ls hl => ?_)
                    refine lv_goto (tgt := 71) hx hb dX5_even_88 (by decide) ?_
                    exact ih_63 (k8_61 + 1) t_has_65 (by first | omega | assumption | exact Eq.trans (by assumption) (by assumption)) (by omega) E H locs ls hP hD hS (lv_sub hl [1, 2, 3, 4, 5, 6, 7, 8, 0] rfl)
              exact L_63 (4 + 1) 0 t_has_27 (by first | omega | assumption | rfl) (by omega) E H locs ls hP hD hS (lv_sub hl [2, 3, 4, 5, 6, 7, 8, 1, 0] rfl)
        exact L_28 (v_15 + 1) 0 (-1) 0 t_has (by first | omega | assumption | rfl) (by omega) E H locs ls hP hD hS (lv_sub hl [4, 5, 6, 3, 2, 1, 0] rfl)
      have E := E_16
      refine x_icmp_ne (a := j_7) (b := 1) (tgt := 34) hx hb (by omega) (by omega) dX5_even_26 (by decide) (fun c_66 => ?_) (fun c_66 => ?_)
      · have E := x_neg E c_66
        refine lv_iload_n hx hb dX5_even_34 rfl (lv_at hl 1 rfl) ?_
        refine lv_iconst (v := 2) hx hb dX5_even_35 (by decide) ?_
        refine x_icmp_ne (a := j_7) (b := 2) (tgt := 45) hx hb (by omega) (by omega) dX5_even_36 (by decide) (fun c_67 => ?_) (fun c_67 => ?_)
        · have E := x_neg E c_67
          refine lv_sipush (v := 13824) hx hb dX5_even_45 (by decide) ?_
          exact J_16 13824 E (by first | omega | assumption | rfl | exact Or.inl rfl | exact Or.inr (by omega)) H locs ls hP hD hS (lv_sub hl [0, 1, 2] rfl)
        · have E := x_pos E c_67
          refine lv_sipush (v := 576) hx hb dX5_even_39 (by decide) ?_
          refine lv_goto (tgt := 48) hx hb dX5_even_42 (by decide) ?_
          exact J_16 576 E (by first | omega | assumption | rfl | exact Or.inl rfl | exact Or.inr (by omega)) H locs ls hP hD hS (lv_sub hl [0, 1, 2] rfl)
      · have E := x_pos E c_66
        refine lv_bipush (v := 24) hx hb dX5_even_29 (by decide) ?_
        refine lv_goto (tgt := 48) hx hb dX5_even_31 (by decide) ?_
        exact J_16 24 E (by first | omega | assumption | rfl | exact Or.inl rfl | exact Or.inr (by omega)) H locs ls hP hD hS (lv_sub hl [0, 1, 2] rfl)
    · have E := x_pos E c_12
      refine lv_iconst (v := (-1)) hx hb dX5_even_22 (by decide) ?_
      exact RET (-1) t_has H locs _ _ (E.symm.trans hO) rfl hP hD hS dX5_even_23
abbrev rX5_goesSo : Room := { frames := 4, cells := 0, slots := 0, locals := 106 }
theorem vX5_goesSo : yX5_goesSo.cls = RX5 ∧ yX5_goesSo.cls ≠ "java/lang/invoke/MethodHandle" ∧ yX5_goesSo.cls ≠ "java/lang/invoke/VarHandle" ∧ (parseMethodDescriptor yX5_goesSo.desc).map (fun d => d.parameters.length) = some 4 := by decide +kernel
abbrev wX5_goesSo : List Cond := Cond.code yX5_goesSo cX5_goesSo 7 (some .boolean) :: wsL_law
def F_X5_goesSo (t_is : Nat → Int32) (t_doings : Nat → Int32) (t_doing : Nat → Int32) (t_row : Nat → Int32) (a1 : Int32) (a2 : Int32) (a3 : Int32) (a4 : Int32) : Int32 × Int32 × Int32 × Int32 × Int32 × (Nat → Int32) × (Nat → Int32) :=
  x_nm (α := Int32) (if a3 = 2 then if ((t_is 2) + (4 * a4)) ≤ 99 then (t_is 2) + (4 * a4) else 99 else t_is 2) fun u_2 => x_nm (upd t_is 2 u_2) fun t_is_3 => x_nm (α := Int32) (if a3 = 4 then if 1 ≤ ((t_is 1) - (10 * a4)) then (t_is 1) - (10 * a4) else 1 else t_is 1) fun u_5 => x_nm (upd t_is_3 1 u_5) fun t_is_6 => x_nm (α := Int32) (if a3 = 1 then 1 <<< (a2 &&& 31) else 0) fun u_8 => x_nm (F_X5_fresh t_is_6 t_row u_8) fun u_15 => x_nm (α := Int32) (if a3 = 3 then 10 * a4 else 0) fun u_17 => x_nm (F_X5_plan t_is_6 t_doings t_doing u_15.2.2.2.2 u_15.1 u_15.2.1 u_15.2.2.1 u_15.2.2.2.1 u_17) fun u_24 => x_nm (upd t_is_6 2 (t_is 2)) fun t_is_25 => x_nm (upd t_is_25 1 (t_is 1)) fun t_is_26 => x_nm (α := Int32) (if u_24.1 = a1 then if (u_24.2.2.2.2 73) = 1 then if (u_24.2.2.2.2 74) = a2 then 1 else 0 else 0 else 0) fun u_28 => (u_28, u_24.1, u_24.2.1, u_24.2.2.1, u_24.2.2.2.1, t_is_26, u_24.2.2.2.2)
set_option maxHeartbeats 4000000 in
set_option maxRecDepth 100000 in
theorem m_X5_goesSo (l : Launch) (g : x_G) (tA tA_is tA_doings tA_doing tA_row tA_text tA_isKept tA_best tA_heats tA_orders tA_has tA_salt tA_crumbs : Nat) (t_length : Nat) (t_at : Nat) (t_begin : Nat) (t_told : Int32) (t_items : Int32) (t_when : Int32) (t_most : Int32) (t_mostAt : Int32) (t_hiss : Int32) (t_tests : Nat) (t_traced : Int64) (t_hasSkin : Int32) (t_hasBend : Int32) (t_is : Nat → Int32) (t_doings : Nat → Int32) (t_doing : Nat → Int32) (t_row : Nat → Int32) (a1 : Int32) (a2 : Int32) (a3 : Int32) (a4 : Int32) (h_0 : (t_doings 0).toNatClampNeg ≤ 12) (h_1 : t_doings 0 = nI (t_doings 0).toNatClampNeg) (h_2 : ∀ k : Nat, k < 12 → (t_doing (3 * k + 2)).toNatClampNeg ≤ 99 ∧ t_doing (3 * k + 2) = nI (t_doing (3 * k + 2)).toNatClampNeg) (h_3 : ¬ 8 * t_is 0 = 0) : x_MetI l yX5_goesSo wX5_goesSo rX5_goesSo g [.ref tA, .int a1, .int a2, .int a3, .int a4] [(tA, .inr (5, [.int (nI t_length), .ref tA_text, .int (nI t_at), .int (nI t_begin), .int t_told, .ref tA_is, .ref tA_doings, .ref tA_doing, .int t_items, .ref tA_row, .ref tA_isKept, .int t_when, .int t_most, .int t_mostAt, .int t_hiss, .ref tA_best, .ref tA_heats, .ref tA_orders, .ref tA_has, .int (nI t_tests), .ref tA_salt, .ref tA_crumbs, .long t_traced, .int t_hasSkin, .int t_hasBend])), (tA_is, .inl (g.2.1 0, 18, .inl t_is)), (tA_doings, .inl (g.2.1 0, 2, .inl t_doings)), (tA_doing, .inl (g.2.1 0, 72, .inl t_doing)), (tA_row, .inl (g.2.1 0, 80, .inl t_row))] (fun (r : Int32) (u : Int32 × Int32 × Int32 × Int32 × (Nat → Int32) × (Nat → Int32)) => (((r, u) = F_X5_goesSo t_is t_doings t_doing t_row a1 a2 a3 a4) ∧ (r = 0 ∨ r = 1)) ∧ (u.2.2.2.2.1 0 = t_is 0)) (fun u => [(tA, .inr (5, [.int (nI t_length), .ref tA_text, .int (nI t_at), .int (nI t_begin), .int t_told, .ref tA_is, .ref tA_doings, .ref tA_doing, .int t_items, .ref tA_row, .ref tA_isKept, .int u.1, .int u.2.1, .int u.2.2.1, .int u.2.2.2.1, .ref tA_best, .ref tA_heats, .ref tA_orders, .ref tA_has, .int (nI t_tests), .ref tA_salt, .ref tA_crumbs, .long t_traced, .int t_hasSkin, .int t_hasBend])), (tA_is, .inl (g.2.1 0, 18, .inl u.2.2.2.2.1)), (tA_doings, .inl (g.2.1 0, 2, .inl t_doings)), (tA_doing, .inl (g.2.1 0, 72, .inl t_doing)), (tA_row, .inl (g.2.1 0, 80, .inl u.2.2.2.2.2))]) := by
  refine x_startI (cc := cX5_goesSo) (maxL := 7) (by decide) rfl (Nat.le_of_ble_eq_true rfl) ?_
  intro p e s m args below meth c Q A ls H locs hx hb hml hown hts hK hX hP hD hS hA hl RET
  have hown : s.vm.findClass RX5 = some m.cls := hown
  have hl : lv_has ls 7 [(0, .ref tA), (1, .int a1), (2, .int a2), (3, .int a3), (4, .int a4)] := hl
  obtain ⟨o_0, hO⟩ : ∃ z, z = F_X5_goesSo t_is t_doings t_doing t_row a1 a2 a3 a4 := ⟨_, rfl⟩
  have E := hO
  rw [F_X5_goesSo.eq_1] at E
  refine lv_aload_n hx hb dX5_goesSo_0 rfl (lv_at hl 0 rfl) ?_
  refine va_get (ci := 5) (v := .ref tA_is) (C := RX5) (T := TX5) (N := 25) hx hb hts inlX5 hown hK.1 hP 0 rfl rfl 5 (by decide) (hts _ kw_94) (fun _ h9 => h9) rfl dX5_goesSo_1 ?_
  refine lv_iconst (v := 2) hx hb dX5_goesSo_4 (by decide) ?_
  refine x_ialdN hx hb hK hP 1 2 rfl (by omega) (by decide) dX5_goesSo_5 ?_
  refine lv_istore (lv' := [(5, .int (t_is 2)), (0, .ref tA), (1, .int a1), (2, .int a2), (3, .int a3), (4, .int a4)]) hx hb dX5_goesSo_6 hl (by decide) rfl (fun ls hl => ?_)
  refine lv_aload_n hx hb dX5_goesSo_8 rfl (lv_at hl 1 rfl) ?_
  refine va_get (ci := 5) (v := .ref tA_is) (C := RX5) (T := TX5) (N := 25) hx hb hts inlX5 hown hK.1 hP 0 rfl rfl 5 (by decide) (hts _ kw_94) (fun _ h9 => h9) rfl dX5_goesSo_9 ?_
  refine lv_iconst (v := 1) hx hb dX5_goesSo_12 (by decide) ?_
  refine x_ialdN hx hb hK hP 1 1 rfl (by omega) (by decide) dX5_goesSo_13 ?_
  refine lv_istore (lv' := [(6, .int (t_is 1)), (5, .int (t_is 2)), (0, .ref tA), (1, .int a1), (2, .int a2), (3, .int a3), (4, .int a4)]) hx hb dX5_goesSo_14 hl (by decide) rfl (fun ls hl => ?_)
  refine lv_aload_n hx hb dX5_goesSo_16 rfl (lv_at hl 2 rfl) ?_
  refine va_get (ci := 5) (v := .ref tA_is) (C := RX5) (T := TX5) (N := 25) hx hb hts inlX5 hown hK.1 hP 0 rfl rfl 5 (by decide) (hts _ kw_94) (fun _ h9 => h9) rfl dX5_goesSo_17 ?_
  refine lv_iconst (v := 2) hx hb dX5_goesSo_20 (by decide) ?_
  refine lv_iload_n hx hb dX5_goesSo_21 rfl (lv_at hl 5 rfl) ?_
  refine lv_iconst (v := 2) hx hb dX5_goesSo_22 (by decide) ?_
  obtain ⟨o_2, E_2, E⟩ := x_nm_ex E
  have J_2 : ∀ (v_1 : Int32), o_2 = v_1 → ∀ (H : Heap) (locs : List Loc) (ls : Array Slot), va_P g.1 vwCl [(tA, .inr (5, [.int (nI t_length), .ref tA_text, .int (nI t_at), .int (nI t_begin), .int t_told, .ref tA_is, .ref tA_doings, .ref tA_doing, .int t_items, .ref tA_row, .ref tA_isKept, .int t_when, .int t_most, .int t_mostAt, .int t_hiss, .ref tA_best, .ref tA_heats, .ref tA_orders, .ref tA_has, .int (nI t_tests), .ref tA_salt, .ref tA_crumbs, .long t_traced, .int t_hasSkin, .int t_hasBend])), (tA_is, .inl (g.2.1 0, 18, .inl t_is)), (tA_doings, .inl (g.2.1 0, 2, .inl t_doings)), (tA_doing, .inl (g.2.1 0, 72, .inl t_doing)), (tA_row, .inl (g.2.1 0, 80, .inl t_row))] H → va_D A [(tA, .inr (5, [.int (nI t_length), .ref tA_text, .int (nI t_at), .int (nI t_begin), .int t_told, .ref tA_is, .ref tA_doings, .ref tA_doing, .int t_items, .ref tA_row, .ref tA_isKept, .int t_when, .int t_most, .int t_mostAt, .int t_hiss, .ref tA_best, .ref tA_heats, .ref tA_orders, .ref tA_has, .int (nI t_tests), .ref tA_salt, .ref tA_crumbs, .long t_traced, .int t_hasSkin, .int t_hasBend])), (tA_is, .inl (g.2.1 0, 18, .inl t_is)), (tA_doings, .inl (g.2.1 0, 2, .inl t_doings)), (tA_doing, .inl (g.2.1 0, 72, .inl t_doing)), (tA_row, .inl (g.2.1 0, 80, .inl t_row))] → va_S A s.heap H locs → lv_has ls 7 [(0, .ref tA), (1, .int a1), (2, .int a2), (3, .int a3), (4, .int a4), (5, .int (t_is 2)), (6, .int (t_is 1))] → W p l e rX5_goesSo s m args below meth c H locs 0 0 Q (F0 m 55 ls [.int v_1, .int 2, .ref tA_is]) := by
    intro v_1 hE  H locs ls hP hD hS hl
    try rw [hE] at E
    refine x_iastN hx hb hK hP hD hS 1 2 rfl (by omega) (by decide) dX5_goesSo_55 (fun t_is_3 H locs hf hP hD hS => ?_)
    have hP : va_P g.1 vwCl [(tA, .inr (5, [.int (nI t_length), .ref tA_text, .int (nI t_at), .int (nI t_begin), .int t_told, .ref tA_is, .ref tA_doings, .ref tA_doing, .int t_items, .ref tA_row, .ref tA_isKept, .int t_when, .int t_most, .int t_mostAt, .int t_hiss, .ref tA_best, .ref tA_heats, .ref tA_orders, .ref tA_has, .int (nI t_tests), .ref tA_salt, .ref tA_crumbs, .long t_traced, .int t_hasSkin, .int t_hasBend])), (tA_is, .inl (g.2.1 0, 18, .inl t_is_3)), (tA_doings, .inl (g.2.1 0, 2, .inl t_doings)), (tA_doing, .inl (g.2.1 0, 72, .inl t_doing)), (tA_row, .inl (g.2.1 0, 80, .inl t_row))] H := hP
    have hD : va_D A [(tA, .inr (5, [.int (nI t_length), .ref tA_text, .int (nI t_at), .int (nI t_begin), .int t_told, .ref tA_is, .ref tA_doings, .ref tA_doing, .int t_items, .ref tA_row, .ref tA_isKept, .int t_when, .int t_most, .int t_mostAt, .int t_hiss, .ref tA_best, .ref tA_heats, .ref tA_orders, .ref tA_has, .int (nI t_tests), .ref tA_salt, .ref tA_crumbs, .long t_traced, .int t_hasSkin, .int t_hasBend])), (tA_is, .inl (g.2.1 0, 18, .inl t_is_3)), (tA_doings, .inl (g.2.1 0, 2, .inl t_doings)), (tA_doing, .inl (g.2.1 0, 72, .inl t_doing)), (tA_row, .inl (g.2.1 0, 80, .inl t_row))] := hD
    have E := x_nm_eq E hf
    have q1 : t_is_3 0 = t_is 0 := by rw [hf]; exact pk_un (by decide)
    refine lv_aload_n hx hb dX5_goesSo_56 rfl (lv_at hl 0 rfl) ?_
    refine va_get (ci := 5) (v := .ref tA_is) (C := RX5) (T := TX5) (N := 25) hx hb hts inlX5 hown hK.1 hP 0 rfl rfl 5 (by decide) (hts _ kw_94) (fun _ h9 => h9) rfl dX5_goesSo_57 ?_
    refine lv_iconst (v := 1) hx hb dX5_goesSo_60 (by decide) ?_
    refine lv_iload_n hx hb dX5_goesSo_61 rfl (lv_at hl 3 rfl) ?_
    refine lv_iconst (v := 4) hx hb dX5_goesSo_62 (by decide) ?_
    obtain ⟨o_5, E_5, E⟩ := x_nm_ex E
    have J_5 : ∀ (v_4 : Int32), o_5 = v_4 → ∀ (H : Heap) (locs : List Loc) (ls : Array Slot), va_P g.1 vwCl [(tA, .inr (5, [.int (nI t_length), .ref tA_text, .int (nI t_at), .int (nI t_begin), .int t_told, .ref tA_is, .ref tA_doings, .ref tA_doing, .int t_items, .ref tA_row, .ref tA_isKept, .int t_when, .int t_most, .int t_mostAt, .int t_hiss, .ref tA_best, .ref tA_heats, .ref tA_orders, .ref tA_has, .int (nI t_tests), .ref tA_salt, .ref tA_crumbs, .long t_traced, .int t_hasSkin, .int t_hasBend])), (tA_is, .inl (g.2.1 0, 18, .inl t_is_3)), (tA_doings, .inl (g.2.1 0, 2, .inl t_doings)), (tA_doing, .inl (g.2.1 0, 72, .inl t_doing)), (tA_row, .inl (g.2.1 0, 80, .inl t_row))] H → va_D A [(tA, .inr (5, [.int (nI t_length), .ref tA_text, .int (nI t_at), .int (nI t_begin), .int t_told, .ref tA_is, .ref tA_doings, .ref tA_doing, .int t_items, .ref tA_row, .ref tA_isKept, .int t_when, .int t_most, .int t_mostAt, .int t_hiss, .ref tA_best, .ref tA_heats, .ref tA_orders, .ref tA_has, .int (nI t_tests), .ref tA_salt, .ref tA_crumbs, .long t_traced, .int t_hasSkin, .int t_hasBend])), (tA_is, .inl (g.2.1 0, 18, .inl t_is_3)), (tA_doings, .inl (g.2.1 0, 2, .inl t_doings)), (tA_doing, .inl (g.2.1 0, 72, .inl t_doing)), (tA_row, .inl (g.2.1 0, 80, .inl t_row))] → va_S A s.heap H locs → lv_has ls 7 [(0, .ref tA), (1, .int a1), (2, .int a2), (3, .int a3), (4, .int a4), (5, .int (t_is 2)), (6, .int (t_is 1))] → W p l e rX5_goesSo s m args below meth c H locs 0 0 Q (F0 m 95 ls [.int v_4, .int 1, .ref tA_is]) := by
      intro v_4 hE  H locs ls hP hD hS hl
      try rw [hE] at E
      refine x_iastN hx hb hK hP hD hS 1 1 rfl (by omega) (by decide) dX5_goesSo_95 (fun t_is_6 H locs hf hP hD hS => ?_)
      have hP : va_P g.1 vwCl [(tA, .inr (5, [.int (nI t_length), .ref tA_text, .int (nI t_at), .int (nI t_begin), .int t_told, .ref tA_is, .ref tA_doings, .ref tA_doing, .int t_items, .ref tA_row, .ref tA_isKept, .int t_when, .int t_most, .int t_mostAt, .int t_hiss, .ref tA_best, .ref tA_heats, .ref tA_orders, .ref tA_has, .int (nI t_tests), .ref tA_salt, .ref tA_crumbs, .long t_traced, .int t_hasSkin, .int t_hasBend])), (tA_is, .inl (g.2.1 0, 18, .inl t_is_6)), (tA_doings, .inl (g.2.1 0, 2, .inl t_doings)), (tA_doing, .inl (g.2.1 0, 72, .inl t_doing)), (tA_row, .inl (g.2.1 0, 80, .inl t_row))] H := hP
      have hD : va_D A [(tA, .inr (5, [.int (nI t_length), .ref tA_text, .int (nI t_at), .int (nI t_begin), .int t_told, .ref tA_is, .ref tA_doings, .ref tA_doing, .int t_items, .ref tA_row, .ref tA_isKept, .int t_when, .int t_most, .int t_mostAt, .int t_hiss, .ref tA_best, .ref tA_heats, .ref tA_orders, .ref tA_has, .int (nI t_tests), .ref tA_salt, .ref tA_crumbs, .long t_traced, .int t_hasSkin, .int t_hasBend])), (tA_is, .inl (g.2.1 0, 18, .inl t_is_6)), (tA_doings, .inl (g.2.1 0, 2, .inl t_doings)), (tA_doing, .inl (g.2.1 0, 72, .inl t_doing)), (tA_row, .inl (g.2.1 0, 80, .inl t_row))] := hD
      have E := x_nm_eq E hf
      have q2 : t_is_6 0 = t_is 0 := by rw [hf, pk_un (by decide)]; exact q1
      refine lv_aload_n hx hb dX5_goesSo_96 rfl (lv_at hl 0 rfl) ?_
      refine lv_iload_n hx hb dX5_goesSo_97 rfl (lv_at hl 3 rfl) ?_
      refine lv_iconst (v := 1) hx hb dX5_goesSo_98 (by decide) ?_
      obtain ⟨o_8, E_8, E⟩ := x_nm_ex E
      have J_8 : ∀ (v_7 : Int32), o_8 = v_7 → ∀ (H : Heap) (locs : List Loc) (ls : Array Slot), va_P g.1 vwCl [(tA, .inr (5, [.int (nI t_length), .ref tA_text, .int (nI t_at), .int (nI t_begin), .int t_told, .ref tA_is, .ref tA_doings, .ref tA_doing, .int t_items, .ref tA_row, .ref tA_isKept, .int t_when, .int t_most, .int t_mostAt, .int t_hiss, .ref tA_best, .ref tA_heats, .ref tA_orders, .ref tA_has, .int (nI t_tests), .ref tA_salt, .ref tA_crumbs, .long t_traced, .int t_hasSkin, .int t_hasBend])), (tA_is, .inl (g.2.1 0, 18, .inl t_is_6)), (tA_doings, .inl (g.2.1 0, 2, .inl t_doings)), (tA_doing, .inl (g.2.1 0, 72, .inl t_doing)), (tA_row, .inl (g.2.1 0, 80, .inl t_row))] H → va_D A [(tA, .inr (5, [.int (nI t_length), .ref tA_text, .int (nI t_at), .int (nI t_begin), .int t_told, .ref tA_is, .ref tA_doings, .ref tA_doing, .int t_items, .ref tA_row, .ref tA_isKept, .int t_when, .int t_most, .int t_mostAt, .int t_hiss, .ref tA_best, .ref tA_heats, .ref tA_orders, .ref tA_has, .int (nI t_tests), .ref tA_salt, .ref tA_crumbs, .long t_traced, .int t_hasSkin, .int t_hasBend])), (tA_is, .inl (g.2.1 0, 18, .inl t_is_6)), (tA_doings, .inl (g.2.1 0, 2, .inl t_doings)), (tA_doing, .inl (g.2.1 0, 72, .inl t_doing)), (tA_row, .inl (g.2.1 0, 80, .inl t_row))] → va_S A s.heap H locs → lv_has ls 7 [(0, .ref tA), (1, .int a1), (2, .int a2), (3, .int a3), (4, .int a4), (5, .int (t_is 2)), (6, .int (t_is 1))] → W p l e rX5_goesSo s m args below meth c H locs 0 0 Q (F0 m 109 ls [.int v_7, .ref tA]) := by
        intro v_7 hE  H locs ls hP hD hS hl
        try rw [hE] at E
        refine x_callVv (w2 := fun u => [(tA, .inr (5, [.int (nI t_length), .ref tA_text, .int (nI t_at), .int (nI t_begin), .int t_told, .ref tA_is, .ref tA_doings, .ref tA_doing, .int t_items, .ref tA_row, .ref tA_isKept, .int u.1, .int u.2.1, .int u.2.2.1, .int u.2.2.2.1, .ref tA_best, .ref tA_heats, .ref tA_orders, .ref tA_has, .int (nI t_tests), .ref tA_salt, .ref tA_crumbs, .long t_traced, .int t_hasSkin, .int t_hasBend])), (tA_is, .inl (g.2.1 0, 18, .inl t_is_6)), (tA_doings, .inl (g.2.1 0, 2, .inl t_doings)), (tA_doing, .inl (g.2.1 0, 72, .inl t_doing)), (tA_row, .inl (g.2.1 0, 80, .inl u.2.2.2.2))]) (wr := [(tA_doings, .inl (g.2.1 0, 2, .inl t_doings)), (tA_doing, .inl (g.2.1 0, 72, .inl t_doing))]) [0, 1, 4] [2, 3] [2, 3, 0, 1, 4] 0 5 ⟨hx, hb, hml, hown, hts⟩ hK hX hP hD hS hA (m_X5_fresh l g tA tA_is tA_row tA_text tA_doings tA_doing tA_isKept tA_best tA_heats tA_orders tA_has tA_salt tA_crumbs t_length t_at t_begin t_told t_items t_when t_most t_mostAt t_hiss t_tests t_traced t_hasSkin t_hasBend t_is_6 t_row v_7) (cwV 1 hts (x_gV kw_608 kw_609 kw_610 kw_5 kw_611) rfl rfl rfl vX5_fresh ⟨Nat.le_of_ble_eq_true rfl, Nat.le_of_ble_eq_true rfl⟩) rfl rfl rfl rfl rfl rfl rfl (by decide) (fun _ => rfl) rfl rfl hl.1 rfl (Nat.le_of_ble_eq_true rfl) dX5_goesSo_109 ⟨Nat.zero_le _, Nat.zero_le _⟩ (fun u H locs hw_14 hP hD hS => ?_)
        obtain ⟨t_when_9, t_most_10, t_mostAt_11, t_hiss_12, t_row_13⟩ := u
        have hP : va_P g.1 vwCl [(tA, .inr (5, [.int (nI t_length), .ref tA_text, .int (nI t_at), .int (nI t_begin), .int t_told, .ref tA_is, .ref tA_doings, .ref tA_doing, .int t_items, .ref tA_row, .ref tA_isKept, .int t_when_9, .int t_most_10, .int t_mostAt_11, .int t_hiss_12, .ref tA_best, .ref tA_heats, .ref tA_orders, .ref tA_has, .int (nI t_tests), .ref tA_salt, .ref tA_crumbs, .long t_traced, .int t_hasSkin, .int t_hasBend])), (tA_is, .inl (g.2.1 0, 18, .inl t_is_6)), (tA_doings, .inl (g.2.1 0, 2, .inl t_doings)), (tA_doing, .inl (g.2.1 0, 72, .inl t_doing)), (tA_row, .inl (g.2.1 0, 80, .inl t_row_13))] H := hP
        have hD : va_D A [(tA, .inr (5, [.int (nI t_length), .ref tA_text, .int (nI t_at), .int (nI t_begin), .int t_told, .ref tA_is, .ref tA_doings, .ref tA_doing, .int t_items, .ref tA_row, .ref tA_isKept, .int t_when_9, .int t_most_10, .int t_mostAt_11, .int t_hiss_12, .ref tA_best, .ref tA_heats, .ref tA_orders, .ref tA_has, .int (nI t_tests), .ref tA_salt, .ref tA_crumbs, .long t_traced, .int t_hasSkin, .int t_hasBend])), (tA_is, .inl (g.2.1 0, 18, .inl t_is_6)), (tA_doings, .inl (g.2.1 0, 2, .inl t_doings)), (tA_doing, .inl (g.2.1 0, 72, .inl t_doing)), (tA_row, .inl (g.2.1 0, 80, .inl t_row_13))] := hD
        have E := x_nm_eq E hw_14
        refine lv_aload_n hx hb dX5_goesSo_112 rfl (lv_at hl 0 rfl) ?_
        refine lv_iload_n hx hb dX5_goesSo_113 rfl (lv_at hl 3 rfl) ?_
        refine lv_iconst (v := 3) hx hb dX5_goesSo_114 (by decide) ?_
        obtain ⟨o_17, E_17, E⟩ := x_nm_ex E
        have J_17 : ∀ (v_16 : Int32), o_17 = v_16 → ∀ (H : Heap) (locs : List Loc) (ls : Array Slot), va_P g.1 vwCl [(tA, .inr (5, [.int (nI t_length), .ref tA_text, .int (nI t_at), .int (nI t_begin), .int t_told, .ref tA_is, .ref tA_doings, .ref tA_doing, .int t_items, .ref tA_row, .ref tA_isKept, .int t_when_9, .int t_most_10, .int t_mostAt_11, .int t_hiss_12, .ref tA_best, .ref tA_heats, .ref tA_orders, .ref tA_has, .int (nI t_tests), .ref tA_salt, .ref tA_crumbs, .long t_traced, .int t_hasSkin, .int t_hasBend])), (tA_is, .inl (g.2.1 0, 18, .inl t_is_6)), (tA_doings, .inl (g.2.1 0, 2, .inl t_doings)), (tA_doing, .inl (g.2.1 0, 72, .inl t_doing)), (tA_row, .inl (g.2.1 0, 80, .inl t_row_13))] H → va_D A [(tA, .inr (5, [.int (nI t_length), .ref tA_text, .int (nI t_at), .int (nI t_begin), .int t_told, .ref tA_is, .ref tA_doings, .ref tA_doing, .int t_items, .ref tA_row, .ref tA_isKept, .int t_when_9, .int t_most_10, .int t_mostAt_11, .int t_hiss_12, .ref tA_best, .ref tA_heats, .ref tA_orders, .ref tA_has, .int (nI t_tests), .ref tA_salt, .ref tA_crumbs, .long t_traced, .int t_hasSkin, .int t_hasBend])), (tA_is, .inl (g.2.1 0, 18, .inl t_is_6)), (tA_doings, .inl (g.2.1 0, 2, .inl t_doings)), (tA_doing, .inl (g.2.1 0, 72, .inl t_doing)), (tA_row, .inl (g.2.1 0, 80, .inl t_row_13))] → va_S A s.heap H locs → lv_has ls 7 [(0, .ref tA), (1, .int a1), (2, .int a2), (5, .int (t_is 2)), (6, .int (t_is 1))] → W p l e rX5_goesSo s m args below meth c H locs 0 0 Q (F0 m 127 ls [.int v_16, .ref tA]) := by
          intro v_16 hE  H locs ls hP hD hS hl
          try rw [hE] at E
          refine x_callVv (w2 := fun u => [(tA, .inr (5, [.int (nI t_length), .ref tA_text, .int (nI t_at), .int (nI t_begin), .int t_told, .ref tA_is, .ref tA_doings, .ref tA_doing, .int t_items, .ref tA_row, .ref tA_isKept, .int u.1, .int u.2.1, .int u.2.2.1, .int u.2.2.2.1, .ref tA_best, .ref tA_heats, .ref tA_orders, .ref tA_has, .int (nI t_tests), .ref tA_salt, .ref tA_crumbs, .long t_traced, .int t_hasSkin, .int t_hasBend])), (tA_is, .inl (g.2.1 0, 18, .inl t_is_6)), (tA_doings, .inl (g.2.1 0, 2, .inl t_doings)), (tA_doing, .inl (g.2.1 0, 72, .inl t_doing)), (tA_row, .inl (g.2.1 0, 80, .inl u.2.2.2.2))]) (wr := []) [0, 1, 2, 3, 4] [] [0, 1, 2, 3, 4] 0 5 ⟨hx, hb, hml, hown, hts⟩ hK hX hP hD hS hA (m_X5_plan l g tA tA_is tA_doings tA_doing tA_row tA_text tA_isKept tA_best tA_heats tA_orders tA_has tA_salt tA_crumbs t_length t_at t_begin t_told t_items t_when_9 t_most_10 t_mostAt_11 t_hiss_12 t_tests t_traced t_hasSkin t_hasBend t_is_6 t_doings t_doing t_row_13 v_16 (by first | assumption | omega | exact x_e8 (by assumption) (by assumption)) (by first | assumption | omega | exact x_e8 (by assumption) (by assumption)) (by first | assumption | omega | exact x_e8 (by assumption) (by assumption)) (by first | assumption | omega | exact x_e8 (by assumption) (by assumption))) (cwV 1 hts (x_gV kw_612 kw_613 kw_614 kw_5 kw_615) rfl rfl rfl vX5_plan ⟨Nat.le_of_ble_eq_true rfl, Nat.le_of_ble_eq_true rfl⟩) rfl rfl rfl rfl rfl rfl rfl (by decide) (fun _ => rfl) rfl rfl hl.1 rfl (Nat.le_of_ble_eq_true rfl) dX5_goesSo_127 ⟨Nat.zero_le _, Nat.zero_le _⟩ (fun u H locs hw_23 hP hD hS => ?_)
          obtain ⟨t_when_18, t_most_19, t_mostAt_20, t_hiss_21, t_row_22⟩ := u
          have hP : va_P g.1 vwCl [(tA, .inr (5, [.int (nI t_length), .ref tA_text, .int (nI t_at), .int (nI t_begin), .int t_told, .ref tA_is, .ref tA_doings, .ref tA_doing, .int t_items, .ref tA_row, .ref tA_isKept, .int t_when_18, .int t_most_19, .int t_mostAt_20, .int t_hiss_21, .ref tA_best, .ref tA_heats, .ref tA_orders, .ref tA_has, .int (nI t_tests), .ref tA_salt, .ref tA_crumbs, .long t_traced, .int t_hasSkin, .int t_hasBend])), (tA_is, .inl (g.2.1 0, 18, .inl t_is_6)), (tA_doings, .inl (g.2.1 0, 2, .inl t_doings)), (tA_doing, .inl (g.2.1 0, 72, .inl t_doing)), (tA_row, .inl (g.2.1 0, 80, .inl t_row_22))] H := hP
          have hD : va_D A [(tA, .inr (5, [.int (nI t_length), .ref tA_text, .int (nI t_at), .int (nI t_begin), .int t_told, .ref tA_is, .ref tA_doings, .ref tA_doing, .int t_items, .ref tA_row, .ref tA_isKept, .int t_when_18, .int t_most_19, .int t_mostAt_20, .int t_hiss_21, .ref tA_best, .ref tA_heats, .ref tA_orders, .ref tA_has, .int (nI t_tests), .ref tA_salt, .ref tA_crumbs, .long t_traced, .int t_hasSkin, .int t_hasBend])), (tA_is, .inl (g.2.1 0, 18, .inl t_is_6)), (tA_doings, .inl (g.2.1 0, 2, .inl t_doings)), (tA_doing, .inl (g.2.1 0, 72, .inl t_doing)), (tA_row, .inl (g.2.1 0, 80, .inl t_row_22))] := hD
          have E := x_nm_eq E hw_23
          refine lv_aload_n hx hb dX5_goesSo_130 rfl (lv_at hl 0 rfl) ?_
          refine va_get (ci := 5) (v := .ref tA_is) (C := RX5) (T := TX5) (N := 25) hx hb hts inlX5 hown hK.1 hP 0 rfl rfl 5 (by decide) (hts _ kw_94) (fun _ h9 => h9) rfl dX5_goesSo_131 ?_
          refine lv_iconst (v := 2) hx hb dX5_goesSo_134 (by decide) ?_
          refine lv_iload hx hb dX5_goesSo_135 (lv_at hl 3 rfl) ?_
          refine x_iastN hx hb hK hP hD hS 1 2 rfl (by omega) (by decide) dX5_goesSo_137 (fun t_is_25 H locs hf hP hD hS => ?_)
          have hP : va_P g.1 vwCl [(tA, .inr (5, [.int (nI t_length), .ref tA_text, .int (nI t_at), .int (nI t_begin), .int t_told, .ref tA_is, .ref tA_doings, .ref tA_doing, .int t_items, .ref tA_row, .ref tA_isKept, .int t_when_18, .int t_most_19, .int t_mostAt_20, .int t_hiss_21, .ref tA_best, .ref tA_heats, .ref tA_orders, .ref tA_has, .int (nI t_tests), .ref tA_salt, .ref tA_crumbs, .long t_traced, .int t_hasSkin, .int t_hasBend])), (tA_is, .inl (g.2.1 0, 18, .inl t_is_25)), (tA_doings, .inl (g.2.1 0, 2, .inl t_doings)), (tA_doing, .inl (g.2.1 0, 72, .inl t_doing)), (tA_row, .inl (g.2.1 0, 80, .inl t_row_22))] H := hP
          have hD : va_D A [(tA, .inr (5, [.int (nI t_length), .ref tA_text, .int (nI t_at), .int (nI t_begin), .int t_told, .ref tA_is, .ref tA_doings, .ref tA_doing, .int t_items, .ref tA_row, .ref tA_isKept, .int t_when_18, .int t_most_19, .int t_mostAt_20, .int t_hiss_21, .ref tA_best, .ref tA_heats, .ref tA_orders, .ref tA_has, .int (nI t_tests), .ref tA_salt, .ref tA_crumbs, .long t_traced, .int t_hasSkin, .int t_hasBend])), (tA_is, .inl (g.2.1 0, 18, .inl t_is_25)), (tA_doings, .inl (g.2.1 0, 2, .inl t_doings)), (tA_doing, .inl (g.2.1 0, 72, .inl t_doing)), (tA_row, .inl (g.2.1 0, 80, .inl t_row_22))] := hD
          have E := x_nm_eq E hf
          have q3 : t_is_25 0 = t_is 0 := by rw [hf, pk_un (by decide)]; exact q2
          refine lv_aload_n hx hb dX5_goesSo_138 rfl (lv_at hl 0 rfl) ?_
          refine va_get (ci := 5) (v := .ref tA_is) (C := RX5) (T := TX5) (N := 25) hx hb hts inlX5 hown hK.1 hP 0 rfl rfl 5 (by decide) (hts _ kw_94) (fun _ h9 => h9) rfl dX5_goesSo_139 ?_
          refine lv_iconst (v := 1) hx hb dX5_goesSo_142 (by decide) ?_
          refine lv_iload hx hb dX5_goesSo_143 (lv_at hl 4 rfl) ?_
          refine x_iastN hx hb hK hP hD hS 1 1 rfl (by omega) (by decide) dX5_goesSo_145 (fun t_is_26 H locs hf hP hD hS => ?_)
          have hP : va_P g.1 vwCl [(tA, .inr (5, [.int (nI t_length), .ref tA_text, .int (nI t_at), .int (nI t_begin), .int t_told, .ref tA_is, .ref tA_doings, .ref tA_doing, .int t_items, .ref tA_row, .ref tA_isKept, .int t_when_18, .int t_most_19, .int t_mostAt_20, .int t_hiss_21, .ref tA_best, .ref tA_heats, .ref tA_orders, .ref tA_has, .int (nI t_tests), .ref tA_salt, .ref tA_crumbs, .long t_traced, .int t_hasSkin, .int t_hasBend])), (tA_is, .inl (g.2.1 0, 18, .inl t_is_26)), (tA_doings, .inl (g.2.1 0, 2, .inl t_doings)), (tA_doing, .inl (g.2.1 0, 72, .inl t_doing)), (tA_row, .inl (g.2.1 0, 80, .inl t_row_22))] H := hP
          have hD : va_D A [(tA, .inr (5, [.int (nI t_length), .ref tA_text, .int (nI t_at), .int (nI t_begin), .int t_told, .ref tA_is, .ref tA_doings, .ref tA_doing, .int t_items, .ref tA_row, .ref tA_isKept, .int t_when_18, .int t_most_19, .int t_mostAt_20, .int t_hiss_21, .ref tA_best, .ref tA_heats, .ref tA_orders, .ref tA_has, .int (nI t_tests), .ref tA_salt, .ref tA_crumbs, .long t_traced, .int t_hasSkin, .int t_hasBend])), (tA_is, .inl (g.2.1 0, 18, .inl t_is_26)), (tA_doings, .inl (g.2.1 0, 2, .inl t_doings)), (tA_doing, .inl (g.2.1 0, 72, .inl t_doing)), (tA_row, .inl (g.2.1 0, 80, .inl t_row_22))] := hD
          have E := x_nm_eq E hf
          have q4 : t_is_26 0 = t_is 0 := by rw [hf, pk_un (by decide)]; exact q3
          refine lv_aload_n hx hb dX5_goesSo_146 rfl (lv_at hl 0 rfl) ?_
          refine va_get (ci := 5) (v := .int t_when_18) (C := RX5) (T := TX5) (N := 25) hx hb hts inlX5 hown hK.1 hP 0 rfl rfl 11 (by decide) (hts _ kw_99) (fun _ h9 => h9) rfl dX5_goesSo_147 ?_
          refine lv_iload_n hx hb dX5_goesSo_150 rfl (lv_at hl 1 rfl) ?_
          obtain ⟨o_28, E_28, E⟩ := x_nm_ex E
          have J_28 : ∀ (v_27 : Int32), o_28 = v_27 → (v_27 = 0 ∨ v_27 = 1) → ∀ (H : Heap) (locs : List Loc) (ls : Array Slot), va_P g.1 vwCl [(tA, .inr (5, [.int (nI t_length), .ref tA_text, .int (nI t_at), .int (nI t_begin), .int t_told, .ref tA_is, .ref tA_doings, .ref tA_doing, .int t_items, .ref tA_row, .ref tA_isKept, .int t_when_18, .int t_most_19, .int t_mostAt_20, .int t_hiss_21, .ref tA_best, .ref tA_heats, .ref tA_orders, .ref tA_has, .int (nI t_tests), .ref tA_salt, .ref tA_crumbs, .long t_traced, .int t_hasSkin, .int t_hasBend])), (tA_is, .inl (g.2.1 0, 18, .inl t_is_26)), (tA_doings, .inl (g.2.1 0, 2, .inl t_doings)), (tA_doing, .inl (g.2.1 0, 72, .inl t_doing)), (tA_row, .inl (g.2.1 0, 80, .inl t_row_22))] H → va_D A [(tA, .inr (5, [.int (nI t_length), .ref tA_text, .int (nI t_at), .int (nI t_begin), .int t_told, .ref tA_is, .ref tA_doings, .ref tA_doing, .int t_items, .ref tA_row, .ref tA_isKept, .int t_when_18, .int t_most_19, .int t_mostAt_20, .int t_hiss_21, .ref tA_best, .ref tA_heats, .ref tA_orders, .ref tA_has, .int (nI t_tests), .ref tA_salt, .ref tA_crumbs, .long t_traced, .int t_hasSkin, .int t_hasBend])), (tA_is, .inl (g.2.1 0, 18, .inl t_is_26)), (tA_doings, .inl (g.2.1 0, 2, .inl t_doings)), (tA_doing, .inl (g.2.1 0, 72, .inl t_doing)), (tA_row, .inl (g.2.1 0, 80, .inl t_row_22))] → va_S A s.heap H locs → lv_has ls 7 [] → W p l e rX5_goesSo s m args below meth c H locs 0 0 Q (F0 m 181 ls [.int v_27]) := by
            intro v_27 hE f_28_0 H locs ls hP hD hS hl
            try rw [hE] at E
            exact RET v_27 (t_when_18, t_most_19, t_mostAt_20, t_hiss_21, t_is_26, t_row_22) H locs _ _ ⟨⟨E.symm.trans hO, (by assumption)⟩, (show t_is_26 0 = t_is 0 from by assumption)⟩ (x_nar (by assumption)) hP hD hS dX5_goesSo_181
          have E := E_28
          refine x_icmp_neI (tgt := 180) hx hb dX5_goesSo_151 (by decide) (fun c_29 => ?_) (fun c_29 => ?_)
          · have E := x_neg E c_29
            refine lv_iconst (v := 0) hx hb dX5_goesSo_180 (by decide) ?_
            exact J_28 0 E (Or.inl rfl) H locs ls hP hD hS (lv_sub hl [] rfl)
          · have E := x_pos E c_29
            refine lv_aload_n hx hb dX5_goesSo_154 rfl (lv_at hl 0 rfl) ?_
            refine va_get (ci := 5) (v := .ref tA_row) (C := RX5) (T := TX5) (N := 25) hx hb hts inlX5 hown hK.1 hP 0 rfl rfl 9 (by decide) (hts _ kw_97) (fun _ h9 => h9) rfl dX5_goesSo_155 ?_
            refine lv_bipush (v := 73) hx hb dX5_goesSo_158 (by decide) ?_
            refine x_ialdN hx hb hK hP 4 73 rfl (by omega) (by decide) dX5_goesSo_160 ?_
            refine lv_iconst (v := 1) hx hb dX5_goesSo_161 (by decide) ?_
            refine x_icmp_neI (tgt := 180) hx hb dX5_goesSo_162 (by decide) (fun c_30 => ?_) (fun c_30 => ?_)
            · have E := x_neg E c_30
              refine lv_iconst (v := 0) hx hb dX5_goesSo_180 (by decide) ?_
              exact J_28 0 E (Or.inl rfl) H locs ls hP hD hS (lv_sub hl [] rfl)
            · have E := x_pos E c_30
              refine lv_aload_n hx hb dX5_goesSo_165 rfl (lv_at hl 0 rfl) ?_
              refine va_get (ci := 5) (v := .ref tA_row) (C := RX5) (T := TX5) (N := 25) hx hb hts inlX5 hown hK.1 hP 0 rfl rfl 9 (by decide) (hts _ kw_97) (fun _ h9 => h9) rfl dX5_goesSo_166 ?_
              refine lv_bipush (v := 74) hx hb dX5_goesSo_169 (by decide) ?_
              refine x_ialdN hx hb hK hP 4 74 rfl (by omega) (by decide) dX5_goesSo_171 ?_
              refine lv_iload_n hx hb dX5_goesSo_172 rfl (lv_at hl 2 rfl) ?_
              refine x_icmp_neI (tgt := 180) hx hb dX5_goesSo_173 (by decide) (fun c_31 => ?_) (fun c_31 => ?_)
              · have E := x_neg E c_31
                refine lv_iconst (v := 0) hx hb dX5_goesSo_180 (by decide) ?_
                exact J_28 0 E (Or.inl rfl) H locs ls hP hD hS (lv_sub hl [] rfl)
              · have E := x_pos E c_31
                refine lv_iconst (v := 1) hx hb dX5_goesSo_176 (by decide) ?_
                refine lv_goto (tgt := 181) hx hb dX5_goesSo_177 (by decide) ?_
                exact J_28 1 E (Or.inr rfl) H locs ls hP hD hS (lv_sub hl [] rfl)
        have E := E_17
        refine x_icmp_neI (tgt := 126) hx hb dX5_goesSo_115 (by decide) (fun c_32 => ?_) (fun c_32 => ?_)
        · have E := x_neg E c_32
          refine lv_iconst (v := 0) hx hb dX5_goesSo_126 (by decide) ?_
          exact J_17 0 E  H locs ls hP hD hS (lv_sub hl [0, 1, 2, 5, 6] rfl)
        · have E := x_pos E c_32
          refine lv_bipush (v := 10) hx hb dX5_goesSo_118 (by decide) ?_
          refine lv_iload hx hb dX5_goesSo_120 (lv_at hl 4 rfl) ?_
          refine lv_imul hx hb dX5_goesSo_122 ?_
          refine lv_goto (tgt := 127) hx hb dX5_goesSo_123 (by decide) ?_
          exact J_17 (10 * a4) E  H locs ls hP hD hS (lv_sub hl [0, 1, 2, 5, 6] rfl)
      have E := E_8
      refine x_icmp_neI (tgt := 108) hx hb dX5_goesSo_99 (by decide) (fun c_33 => ?_) (fun c_33 => ?_)
      · have E := x_neg E c_33
        refine lv_iconst (v := 0) hx hb dX5_goesSo_108 (by decide) ?_
        exact J_8 0 E  H locs ls hP hD hS (lv_sub hl [0, 1, 2, 3, 4, 5, 6] rfl)
      · have E := x_pos E c_33
        refine lv_iconst (v := 1) hx hb dX5_goesSo_102 (by decide) ?_
        refine lv_iload_n hx hb dX5_goesSo_103 rfl (lv_at hl 2 rfl) ?_
        refine lv_ishl hx hb dX5_goesSo_104 ?_
        refine lv_goto (tgt := 109) hx hb dX5_goesSo_105 (by decide) ?_
        exact J_8 (1 <<< (a2 &&& 31)) E  H locs ls hP hD hS (lv_sub hl [0, 1, 2, 3, 4, 5, 6] rfl)
    have E := E_5
    refine x_icmp_neI (tgt := 93) hx hb dX5_goesSo_63 (by decide) (fun c_34 => ?_) (fun c_34 => ?_)
    · have E := x_neg E c_34
      refine lv_iload hx hb dX5_goesSo_93 (lv_at hl 6 rfl) ?_
      exact J_5 (t_is 1) E  H locs ls hP hD hS (lv_sub hl [0, 1, 2, 3, 4, 5, 6] rfl)
    · have E := x_pos E c_34
      refine lv_iload hx hb dX5_goesSo_66 (lv_at hl 6 rfl) ?_
      refine lv_bipush (v := 10) hx hb dX5_goesSo_68 (by decide) ?_
      refine lv_iload hx hb dX5_goesSo_70 (lv_at hl 4 rfl) ?_
      refine lv_imul hx hb dX5_goesSo_72 ?_
      refine lv_isub hx hb dX5_goesSo_73 ?_
      refine lv_iconst (v := 1) hx hb dX5_goesSo_74 (by decide) ?_
      refine lv_icmp_ge (tgt := 82) hx hb dX5_goesSo_75 (by decide) (fun c_35 => ?_) (fun c_35 => ?_)
      · have E := x_pos E c_35
        refine lv_iload hx hb dX5_goesSo_82 (lv_at hl 6 rfl) ?_
        refine lv_bipush (v := 10) hx hb dX5_goesSo_84 (by decide) ?_
        refine lv_iload hx hb dX5_goesSo_86 (lv_at hl 4 rfl) ?_
        refine lv_imul hx hb dX5_goesSo_88 ?_
        refine lv_isub hx hb dX5_goesSo_89 ?_
        refine lv_goto (tgt := 95) hx hb dX5_goesSo_90 (by decide) ?_
        exact J_5 ((t_is 1) - (10 * a4)) E  H locs ls hP hD hS (lv_sub hl [0, 1, 2, 3, 4, 5, 6] rfl)
      · have E := x_neg E c_35
        refine lv_iconst (v := 1) hx hb dX5_goesSo_78 (by decide) ?_
        refine lv_goto (tgt := 95) hx hb dX5_goesSo_79 (by decide) ?_
        exact J_5 1 E  H locs ls hP hD hS (lv_sub hl [0, 1, 2, 3, 4, 5, 6] rfl)
  have E := E_2
  refine x_icmp_neI (tgt := 53) hx hb dX5_goesSo_23 (by decide) (fun c_36 => ?_) (fun c_36 => ?_)
  · have E := x_neg E c_36
    refine lv_iload hx hb dX5_goesSo_53 (lv_at hl 1 rfl) ?_
    exact J_2 (t_is 2) E  H locs ls hP hD hS (lv_sub hl [2, 3, 4, 5, 6, 1, 0] rfl)
  · have E := x_pos E c_36
    refine lv_iload hx hb dX5_goesSo_26 (lv_at hl 1 rfl) ?_
    refine lv_iconst (v := 4) hx hb dX5_goesSo_28 (by decide) ?_
    refine lv_iload hx hb dX5_goesSo_29 (lv_at hl 6 rfl) ?_
    refine lv_imul hx hb dX5_goesSo_31 ?_
    refine lv_iadd hx hb dX5_goesSo_32 ?_
    refine lv_bipush (v := 99) hx hb dX5_goesSo_33 (by decide) ?_
    refine lv_icmp_le (tgt := 43) hx hb dX5_goesSo_35 (by decide) (fun c_37 => ?_) (fun c_37 => ?_)
    · have E := x_pos E c_37
      refine lv_iload hx hb dX5_goesSo_43 (lv_at hl 1 rfl) ?_
      refine lv_iconst (v := 4) hx hb dX5_goesSo_45 (by decide) ?_
      refine lv_iload hx hb dX5_goesSo_46 (lv_at hl 6 rfl) ?_
      refine lv_imul hx hb dX5_goesSo_48 ?_
      refine lv_iadd hx hb dX5_goesSo_49 ?_
      refine lv_goto (tgt := 55) hx hb dX5_goesSo_50 (by decide) ?_
      exact J_2 ((t_is 2) + (4 * a4)) E  H locs ls hP hD hS (lv_sub hl [2, 3, 4, 5, 6, 1, 0] rfl)
    · have E := x_neg E c_37
      refine lv_bipush (v := 99) hx hb dX5_goesSo_38 (by decide) ?_
      refine lv_goto (tgt := 55) hx hb dX5_goesSo_40 (by decide) ?_
      exact J_2 99 E  H locs ls hP hD hS (lv_sub hl [2, 3, 4, 5, 6, 1, 0] rfl)
abbrev rX5_begun : Room := { frames := 5, cells := 0, slots := 0, locals := 132 }
theorem vX5_begun : yX5_begun.cls = RX5 ∧ yX5_begun.cls ≠ "java/lang/invoke/MethodHandle" ∧ yX5_begun.cls ≠ "java/lang/invoke/VarHandle" ∧ (parseMethodDescriptor yX5_begun.desc).map (fun d => d.parameters.length) = some 3 := by decide +kernel
abbrev wX5_begun : List Cond := Cond.code yX5_begun cX5_begun 6 (some .int) :: wsL_law
def F_X5_begun_L6 (t_doings : Nat → Int32) (t_doing : Nat → Int32) (a1 : Int32) (a2 : Int32) (a3 : Int32) : Nat → Nat → Nat → Int32 → Int32 → Int32 → Int32 → (Nat → Int32) → (Nat → Int32) → Nat × Int32 × Int32 × Int32 × Int32 × (Nat → Int32) × (Nat → Int32)
  | 0, k4_9, k5_10, t_when_11, t_most_12, t_mostAt_13, t_hiss_14, t_is_15, t_row_16 => (k4_9, t_when_11, t_most_12, t_mostAt_13, t_hiss_14, t_is_15, t_row_16)
  | n_17 + 1, k4_9, k5_10, t_when_11, t_most_12, t_mostAt_13, t_hiss_14, t_is_15, t_row_16 => if 10 ≤ k5_10 then (k4_9, t_when_11, t_most_12, t_mostAt_13, t_hiss_14, t_is_15, t_row_16) else x_nm (F_X5_goesSo t_is_15 t_doings t_doing t_row_16 a1 a2 a3 (nI k5_10)) fun u_28 => x_nm (α := Nat) (if u_28.1 = 0 then 0 else 1) fun u_30 => F_X5_begun_L6 t_doings t_doing a1 a2 a3 n_17 (k4_9 + u_30) (k5_10 + 1) u_28.2.1 u_28.2.2.1 u_28.2.2.2.1 u_28.2.2.2.2.1 u_28.2.2.2.2.2.1 u_28.2.2.2.2.2.2
def F_X5_begun (t_is : Nat → Int32) (t_doings : Nat → Int32) (t_doing : Nat → Int32) (t_row : Nat → Int32) (t_when : Int32) (t_most : Int32) (t_mostAt : Int32) (t_hiss : Int32) (a1 : Int32) (a2 : Int32) (a3 : Int32) : Int32 × Int32 × Int32 × Int32 × Int32 × (Nat → Int32) × (Nat → Int32) :=
  x_nm (α := Nat × Int32 × Int32 × Int32 × Int32 × (Nat → Int32) × (Nat → Int32)) (F_X5_begun_L6 t_doings t_doing a1 a2 a3 (10 + 1) 0 1 t_when t_most t_mostAt t_hiss t_is t_row) fun u_8 => (nI u_8.1, u_8.2.1, u_8.2.2.1, u_8.2.2.2.1, u_8.2.2.2.2.1, u_8.2.2.2.2.2.1, u_8.2.2.2.2.2.2)
set_option maxHeartbeats 4000000 in
set_option maxRecDepth 100000 in
theorem m_X5_begun (l : Launch) (g : x_G) (tA tA_is tA_doings tA_doing tA_row tA_text tA_isKept tA_best tA_heats tA_orders tA_has tA_salt tA_crumbs : Nat) (t_length : Nat) (t_at : Nat) (t_begin : Nat) (t_told : Int32) (t_items : Int32) (t_when : Int32) (t_most : Int32) (t_mostAt : Int32) (t_hiss : Int32) (t_tests : Nat) (t_traced : Int64) (t_hasSkin : Int32) (t_hasBend : Int32) (t_is : Nat → Int32) (t_doings : Nat → Int32) (t_doing : Nat → Int32) (t_row : Nat → Int32) (a1 : Int32) (a2 : Int32) (a3 : Int32) (h_0 : (t_doings 0).toNatClampNeg ≤ 12) (h_1 : t_doings 0 = nI (t_doings 0).toNatClampNeg) (h_2 : ∀ k : Nat, k < 12 → (t_doing (3 * k + 2)).toNatClampNeg ≤ 99 ∧ t_doing (3 * k + 2) = nI (t_doing (3 * k + 2)).toNatClampNeg) (h_3 : ¬ 8 * t_is 0 = 0) : x_MetI l yX5_begun wX5_begun rX5_begun g [.ref tA, .int a1, .int a2, .int a3] [(tA, .inr (5, [.int (nI t_length), .ref tA_text, .int (nI t_at), .int (nI t_begin), .int t_told, .ref tA_is, .ref tA_doings, .ref tA_doing, .int t_items, .ref tA_row, .ref tA_isKept, .int t_when, .int t_most, .int t_mostAt, .int t_hiss, .ref tA_best, .ref tA_heats, .ref tA_orders, .ref tA_has, .int (nI t_tests), .ref tA_salt, .ref tA_crumbs, .long t_traced, .int t_hasSkin, .int t_hasBend])), (tA_is, .inl (g.2.1 0, 18, .inl t_is)), (tA_doings, .inl (g.2.1 0, 2, .inl t_doings)), (tA_doing, .inl (g.2.1 0, 72, .inl t_doing)), (tA_row, .inl (g.2.1 0, 80, .inl t_row))] (fun (r : Int32) (u : Int32 × Int32 × Int32 × Int32 × (Nat → Int32) × (Nat → Int32)) => ((r, u) = F_X5_begun t_is t_doings t_doing t_row t_when t_most t_mostAt t_hiss a1 a2 a3) ∧ (r = nI (r).toNatClampNeg ∧ (r).toNatClampNeg ≤ 9) ∧ (u.2.2.2.2.1 0 = t_is 0)) (fun u => [(tA, .inr (5, [.int (nI t_length), .ref tA_text, .int (nI t_at), .int (nI t_begin), .int t_told, .ref tA_is, .ref tA_doings, .ref tA_doing, .int t_items, .ref tA_row, .ref tA_isKept, .int u.1, .int u.2.1, .int u.2.2.1, .int u.2.2.2.1, .ref tA_best, .ref tA_heats, .ref tA_orders, .ref tA_has, .int (nI t_tests), .ref tA_salt, .ref tA_crumbs, .long t_traced, .int t_hasSkin, .int t_hasBend])), (tA_is, .inl (g.2.1 0, 18, .inl u.2.2.2.2.1)), (tA_doings, .inl (g.2.1 0, 2, .inl t_doings)), (tA_doing, .inl (g.2.1 0, 72, .inl t_doing)), (tA_row, .inl (g.2.1 0, 80, .inl u.2.2.2.2.2))]) := by
  refine x_startI (cc := cX5_begun) (maxL := 6) (by decide) rfl (Nat.le_of_ble_eq_true rfl) ?_
  intro p e s m args below meth c Q A ls H locs hx hb hml hown hts hK hX hP hD hS hA hl RET
  have hown : s.vm.findClass RX5 = some m.cls := hown
  have hl : lv_has ls 6 [(0, .ref tA), (1, .int a1), (2, .int a2), (3, .int a3)] := hl
  obtain ⟨o_0, hO⟩ : ∃ z, z = F_X5_begun t_is t_doings t_doing t_row t_when t_most t_mostAt t_hiss a1 a2 a3 := ⟨_, rfl⟩
  have E := hO
  rw [F_X5_begun.eq_1] at E
  refine lv_iconst (v := 0) hx hb dX5_begun_0 (by decide) ?_
  refine lv_istore (lv' := [(4, .int 0), (0, .ref tA), (1, .int a1), (2, .int a2), (3, .int a3)]) hx hb dX5_begun_1 hl (by decide) rfl (fun ls hl => ?_)
  refine lv_iconst (v := 1) hx hb dX5_begun_3 (by decide) ?_
  refine lv_istore (lv' := [(5, .int 1), (4, .int 0), (0, .ref tA), (1, .int a1), (2, .int a2), (3, .int a3)]) hx hb dX5_begun_4 hl (by decide) rfl (fun ls hl => ?_)
  obtain ⟨o_8, E_8, E⟩ := x_nm_ex E
  have J_8 : ∀ (l4_1 : Nat) (t_when_2 : Int32) (t_most_3 : Int32) (t_mostAt_4 : Int32) (t_hiss_5 : Int32) (t_is_6 : Nat → Int32) (t_row_7 : Nat → Int32), o_8 = (l4_1, t_when_2, t_most_3, t_mostAt_4, t_hiss_5, t_is_6, t_row_7) → (l4_1 + 1 ≤ 10) → (t_is_6 0 = t_is 0) → ∀ (H : Heap) (locs : List Loc) (ls : Array Slot), va_P g.1 vwCl [(tA, .inr (5, [.int (nI t_length), .ref tA_text, .int (nI t_at), .int (nI t_begin), .int t_told, .ref tA_is, .ref tA_doings, .ref tA_doing, .int t_items, .ref tA_row, .ref tA_isKept, .int t_when_2, .int t_most_3, .int t_mostAt_4, .int t_hiss_5, .ref tA_best, .ref tA_heats, .ref tA_orders, .ref tA_has, .int (nI t_tests), .ref tA_salt, .ref tA_crumbs, .long t_traced, .int t_hasSkin, .int t_hasBend])), (tA_is, .inl (g.2.1 0, 18, .inl t_is_6)), (tA_doings, .inl (g.2.1 0, 2, .inl t_doings)), (tA_doing, .inl (g.2.1 0, 72, .inl t_doing)), (tA_row, .inl (g.2.1 0, 80, .inl t_row_7))] H → va_D A [(tA, .inr (5, [.int (nI t_length), .ref tA_text, .int (nI t_at), .int (nI t_begin), .int t_told, .ref tA_is, .ref tA_doings, .ref tA_doing, .int t_items, .ref tA_row, .ref tA_isKept, .int t_when_2, .int t_most_3, .int t_mostAt_4, .int t_hiss_5, .ref tA_best, .ref tA_heats, .ref tA_orders, .ref tA_has, .int (nI t_tests), .ref tA_salt, .ref tA_crumbs, .long t_traced, .int t_hasSkin, .int t_hasBend])), (tA_is, .inl (g.2.1 0, 18, .inl t_is_6)), (tA_doings, .inl (g.2.1 0, 2, .inl t_doings)), (tA_doing, .inl (g.2.1 0, 72, .inl t_doing)), (tA_row, .inl (g.2.1 0, 80, .inl t_row_7))] → va_S A s.heap H locs → lv_has ls 6 [(4, .int (nI l4_1))] → W p l e rX5_begun s m args below meth c H locs 0 0 Q (F0 m 41 ls []) := by
    intro l4_1 t_when_2 t_most_3 t_mostAt_4 t_hiss_5 t_is_6 t_row_7 hE f_8_0 f_8_1 H locs ls hP hD hS hl
    try rw [hE] at E
    refine lv_iload hx hb dX5_begun_41 (lv_at hl 0 rfl) ?_
    exact RET (nI l4_1) (t_when_2, t_most_3, t_mostAt_4, t_hiss_5, t_is_6, t_row_7) H locs _ _ ⟨E.symm.trans hO, (show (nI l4_1) = nI ((nI l4_1)).toNatClampNeg ∧ ((nI l4_1)).toNatClampNeg ≤ 9 from by rw [nI_clamp (by omega)]; exact ⟨rfl, by omega⟩), (show t_is_6 0 = t_is 0 from by assumption)⟩ rfl hP hD hS dX5_begun_43
  have E := E_8
  have L_17 : ∀ (n_17 : Nat) (k4_9 : Nat) (k5_10 : Nat) (t_when_11 : Int32) (t_most_12 : Int32) (t_mostAt_13 : Int32) (t_hiss_14 : Int32) (t_is_15 : Nat → Int32) (t_row_16 : Nat → Int32), (k5_10 ≤ 10) → (k4_9 + 1 ≤ k5_10) → (t_is_15 0 = t_is 0) → ((10 - k5_10) < n_17) → o_8 = F_X5_begun_L6 t_doings t_doing a1 a2 a3 n_17 k4_9 k5_10 t_when_11 t_most_12 t_mostAt_13 t_hiss_14 t_is_15 t_row_16 → ∀ (H : Heap) (locs : List Loc) (ls : Array Slot), va_P g.1 vwCl [(tA, .inr (5, [.int (nI t_length), .ref tA_text, .int (nI t_at), .int (nI t_begin), .int t_told, .ref tA_is, .ref tA_doings, .ref tA_doing, .int t_items, .ref tA_row, .ref tA_isKept, .int t_when_11, .int t_most_12, .int t_mostAt_13, .int t_hiss_14, .ref tA_best, .ref tA_heats, .ref tA_orders, .ref tA_has, .int (nI t_tests), .ref tA_salt, .ref tA_crumbs, .long t_traced, .int t_hasSkin, .int t_hasBend])), (tA_is, .inl (g.2.1 0, 18, .inl t_is_15)), (tA_doings, .inl (g.2.1 0, 2, .inl t_doings)), (tA_doing, .inl (g.2.1 0, 72, .inl t_doing)), (tA_row, .inl (g.2.1 0, 80, .inl t_row_16))] H → va_D A [(tA, .inr (5, [.int (nI t_length), .ref tA_text, .int (nI t_at), .int (nI t_begin), .int t_told, .ref tA_is, .ref tA_doings, .ref tA_doing, .int t_items, .ref tA_row, .ref tA_isKept, .int t_when_11, .int t_most_12, .int t_mostAt_13, .int t_hiss_14, .ref tA_best, .ref tA_heats, .ref tA_orders, .ref tA_has, .int (nI t_tests), .ref tA_salt, .ref tA_crumbs, .long t_traced, .int t_hasSkin, .int t_hasBend])), (tA_is, .inl (g.2.1 0, 18, .inl t_is_15)), (tA_doings, .inl (g.2.1 0, 2, .inl t_doings)), (tA_doing, .inl (g.2.1 0, 72, .inl t_doing)), (tA_row, .inl (g.2.1 0, 80, .inl t_row_16))] → va_S A s.heap H locs → lv_has ls 6 [(0, .ref tA), (1, .int a1), (2, .int a2), (3, .int a3), (4, .int (nI k4_9)), (5, .int (nI k5_10))] → W p l e rX5_begun s m args below meth c H locs 0 0 Q (F0 m 6 ls []) := by
    intro n_17
    induction n_17 with
    | zero => intro k4_9 k5_10 t_when_11 t_most_12 t_mostAt_13 t_hiss_14 t_is_15 t_row_16 i_17_0 i_17_1 i_17_2 i_17_3; exact absurd i_17_3 (by omega)
    | succ n_17 ih_17 =>
      intro k4_9 k5_10 t_when_11 t_most_12 t_mostAt_13 t_hiss_14 t_is_15 t_row_16 i_17_0 i_17_1 i_17_2 i_17_3 E H locs ls hP hD hS hl
      rw [F_X5_begun_L6.eq_2] at E
      refine lv_iload hx hb dX5_begun_6 (lv_at hl 5 rfl) ?_
      refine lv_bipush (v := 10) hx hb dX5_begun_8 (by decide) ?_
      refine x_icmp_ge (a := k5_10) (b := 10) (tgt := 41) hx hb (by omega) (by omega) dX5_begun_10 (by decide) (fun c_18 => ?_) (fun c_18 => ?_)
      · have E := x_pos E c_18
        exact J_8 k4_9 t_when_11 t_most_12 t_mostAt_13 t_hiss_14 t_is_15 t_row_16 E (by first | omega | assumption | rfl | exact Or.inl rfl | exact Or.inr (by omega)) (by first | omega | assumption | rfl | exact Or.inl rfl | exact Or.inr (by omega)) H locs ls hP hD hS (lv_sub hl [4] rfl)
      · have E := x_neg E c_18
        refine lv_iload hx hb dX5_begun_13 (lv_at hl 4 rfl) ?_
        refine lv_aload_n hx hb dX5_begun_15 rfl (lv_at hl 0 rfl) ?_
        refine lv_iload_n hx hb dX5_begun_16 rfl (lv_at hl 1 rfl) ?_
        refine lv_iload_n hx hb dX5_begun_17 rfl (lv_at hl 2 rfl) ?_
        refine lv_iload_n hx hb dX5_begun_18 rfl (lv_at hl 3 rfl) ?_
        refine lv_iload hx hb dX5_begun_19 (lv_at hl 5 rfl) ?_
        refine x_callVi (w2 := fun u => [(tA, .inr (5, [.int (nI t_length), .ref tA_text, .int (nI t_at), .int (nI t_begin), .int t_told, .ref tA_is, .ref tA_doings, .ref tA_doing, .int t_items, .ref tA_row, .ref tA_isKept, .int u.1, .int u.2.1, .int u.2.2.1, .int u.2.2.2.1, .ref tA_best, .ref tA_heats, .ref tA_orders, .ref tA_has, .int (nI t_tests), .ref tA_salt, .ref tA_crumbs, .long t_traced, .int t_hasSkin, .int t_hasBend])), (tA_is, .inl (g.2.1 0, 18, .inl u.2.2.2.2.1)), (tA_doings, .inl (g.2.1 0, 2, .inl t_doings)), (tA_doing, .inl (g.2.1 0, 72, .inl t_doing)), (tA_row, .inl (g.2.1 0, 80, .inl u.2.2.2.2.2))]) (wr := []) [0, 1, 2, 3, 4] [] [0, 1, 2, 3, 4] 0 5 ⟨hx, hb, hml, hown, hts⟩ hK hX hP hD hS hA (m_X5_goesSo l g tA tA_is tA_doings tA_doing tA_row tA_text tA_isKept tA_best tA_heats tA_orders tA_has tA_salt tA_crumbs t_length t_at t_begin t_told t_items t_when_11 t_most_12 t_mostAt_13 t_hiss_14 t_tests t_traced t_hasSkin t_hasBend t_is_15 t_doings t_doing t_row_16 a1 a2 a3 (nI k5_10) (by first | assumption | omega | exact x_e8 (by assumption) (by assumption)) (by first | assumption | omega | exact x_e8 (by assumption) (by assumption)) (by first | assumption | omega | exact x_e8 (by assumption) (by assumption)) (by first | assumption | omega | exact x_e8 (by assumption) (by assumption))) (cwV 4 hts (x_gV kw_734 kw_735 kw_736 kw_5 kw_737) rfl rfl rfl vX5_goesSo ⟨Nat.le_of_ble_eq_true rfl, Nat.le_of_ble_eq_true rfl⟩) rfl rfl rfl rfl rfl rfl rfl (by decide) (fun _ => rfl) rfl rfl hl.1 rfl (Nat.le_of_ble_eq_true rfl) dX5_begun_21 ⟨Nat.zero_le _, Nat.zero_le _⟩ (fun z_25 u H locs hw_26 hP hD hS => ?_)
        obtain ⟨t_when_19, t_most_20, t_mostAt_21, t_hiss_22, t_is_23, t_row_24⟩ := u
        obtain ⟨⟨hw_26, b_27⟩, he⟩ := hw_26
        have en_21_0 := he
        have en_21_0 : t_is_23 0 = t_is_15 0 := en_21_0
        have hP : va_P g.1 vwCl [(tA, .inr (5, [.int (nI t_length), .ref tA_text, .int (nI t_at), .int (nI t_begin), .int t_told, .ref tA_is, .ref tA_doings, .ref tA_doing, .int t_items, .ref tA_row, .ref tA_isKept, .int t_when_19, .int t_most_20, .int t_mostAt_21, .int t_hiss_22, .ref tA_best, .ref tA_heats, .ref tA_orders, .ref tA_has, .int (nI t_tests), .ref tA_salt, .ref tA_crumbs, .long t_traced, .int t_hasSkin, .int t_hasBend])), (tA_is, .inl (g.2.1 0, 18, .inl t_is_23)), (tA_doings, .inl (g.2.1 0, 2, .inl t_doings)), (tA_doing, .inl (g.2.1 0, 72, .inl t_doing)), (tA_row, .inl (g.2.1 0, 80, .inl t_row_24))] H := hP
        have hD : va_D A [(tA, .inr (5, [.int (nI t_length), .ref tA_text, .int (nI t_at), .int (nI t_begin), .int t_told, .ref tA_is, .ref tA_doings, .ref tA_doing, .int t_items, .ref tA_row, .ref tA_isKept, .int t_when_19, .int t_most_20, .int t_mostAt_21, .int t_hiss_22, .ref tA_best, .ref tA_heats, .ref tA_orders, .ref tA_has, .int (nI t_tests), .ref tA_salt, .ref tA_crumbs, .long t_traced, .int t_hasSkin, .int t_hasBend])), (tA_is, .inl (g.2.1 0, 18, .inl t_is_23)), (tA_doings, .inl (g.2.1 0, 2, .inl t_doings)), (tA_doing, .inl (g.2.1 0, 72, .inl t_doing)), (tA_row, .inl (g.2.1 0, 80, .inl t_row_24))] := hD
        have E := x_nm_eq E hw_26
        obtain ⟨o_30, E_30, E⟩ := x_nm_ex E
        have J_30 : ∀ (v_29 : Nat), o_30 = v_29 → (v_29 ≤ 1) → ∀ (H : Heap) (locs : List Loc) (ls : Array Slot), va_P g.1 vwCl [(tA, .inr (5, [.int (nI t_length), .ref tA_text, .int (nI t_at), .int (nI t_begin), .int t_told, .ref tA_is, .ref tA_doings, .ref tA_doing, .int t_items, .ref tA_row, .ref tA_isKept, .int t_when_19, .int t_most_20, .int t_mostAt_21, .int t_hiss_22, .ref tA_best, .ref tA_heats, .ref tA_orders, .ref tA_has, .int (nI t_tests), .ref tA_salt, .ref tA_crumbs, .long t_traced, .int t_hasSkin, .int t_hasBend])), (tA_is, .inl (g.2.1 0, 18, .inl t_is_23)), (tA_doings, .inl (g.2.1 0, 2, .inl t_doings)), (tA_doing, .inl (g.2.1 0, 72, .inl t_doing)), (tA_row, .inl (g.2.1 0, 80, .inl t_row_24))] H → va_D A [(tA, .inr (5, [.int (nI t_length), .ref tA_text, .int (nI t_at), .int (nI t_begin), .int t_told, .ref tA_is, .ref tA_doings, .ref tA_doing, .int t_items, .ref tA_row, .ref tA_isKept, .int t_when_19, .int t_most_20, .int t_mostAt_21, .int t_hiss_22, .ref tA_best, .ref tA_heats, .ref tA_orders, .ref tA_has, .int (nI t_tests), .ref tA_salt, .ref tA_crumbs, .long t_traced, .int t_hasSkin, .int t_hasBend])), (tA_is, .inl (g.2.1 0, 18, .inl t_is_23)), (tA_doings, .inl (g.2.1 0, 2, .inl t_doings)), (tA_doing, .inl (g.2.1 0, 72, .inl t_doing)), (tA_row, .inl (g.2.1 0, 80, .inl t_row_24))] → va_S A s.heap H locs → lv_has ls 6 [(0, .ref tA), (1, .int a1), (2, .int a2), (3, .int a3), (5, .int (nI k5_10))] → W p l e rX5_begun s m args below meth c H locs 0 0 Q (F0 m 32 ls [.int (nI v_29), .int (nI k4_9)]) := by
          intro v_29 hE f_30_0 H locs ls hP hD hS hl
          try rw [hE] at E
          refine lv_iadd hx hb dX5_begun_32 ?_
          refine x_eqi (nI_add k4_9 v_29) ?_
          refine lv_istore (lv' := [(4, .int (nI (k4_9 + v_29))), (0, .ref tA), (1, .int a1), (2, .int a2), (3, .int a3), (5, .int (nI k5_10))]) hx hb dX5_begun_33 hl (by decide) rfl (fun ls hl => ?_)
          refine lv_iinc (v := nI (k5_10 + 1)) (lv' := [(5, .int (nI (k5_10 + 1))), (4, .int (nI (k4_9 + v_29))), (0, .ref tA), (1, .int a1), (2, .int a2), (3, .int a3)]) hx hb dX5_begun_35 hl (k := 5) rfl (nI_1 k5_10) (by decide) rfl (fun ls hl => ?_)
          refine lv_goto (tgt := 6) hx hb dX5_begun_38 (by decide) ?_
          exact ih_17 (k4_9 + v_29) (k5_10 + 1) t_when_19 t_most_20 t_mostAt_21 t_hiss_22 t_is_23 t_row_24 (by first | omega | assumption | exact Eq.trans (by assumption) (by assumption)) (by first | omega | assumption | exact Eq.trans (by assumption) (by assumption)) (by first | omega | assumption | exact Eq.trans (by assumption) (by assumption)) (by omega) E H locs ls hP hD hS (lv_sub hl [2, 3, 4, 5, 1, 0] rfl)
        have E := E_30
        refine lv_if_eq (tgt := 31) hx hb dX5_begun_24 (by decide) (fun c_31 => ?_) (fun c_31 => ?_)
        · have E := x_pos E c_31
          refine lv_iconst (v := 0) hx hb dX5_begun_31 (by decide) ?_
          exact J_30 0 E (by first | omega | assumption | rfl | exact Or.inl rfl | exact Or.inr (by omega)) H locs ls hP hD hS (lv_sub hl [0, 1, 2, 3, 5] rfl)
        · have E := x_neg E c_31
          refine lv_iconst (v := 1) hx hb dX5_begun_27 (by decide) ?_
          refine lv_goto (tgt := 32) hx hb dX5_begun_28 (by decide) ?_
          exact J_30 1 E (by first | omega | assumption | rfl | exact Or.inl rfl | exact Or.inr (by omega)) H locs ls hP hD hS (lv_sub hl [0, 1, 2, 3, 5] rfl)
  exact L_17 (10 + 1) 0 1 t_when t_most t_mostAt t_hiss t_is t_row (by first | omega | assumption | rfl) (by first | omega | assumption | rfl) (by first | omega | assumption | rfl) (by omega) E H locs ls hP hD hS (lv_sub hl [2, 3, 4, 5, 1, 0] rfl)
abbrev rX5_isCause : Room := { frames := 1, cells := 0, slots := 0, locals := 25 }
theorem vX5_isCauseS : yX5_isCause.cls ≠ "java/lang/invoke/MethodHandle" ∧ yX5_isCause.cls ≠ "java/lang/invoke/VarHandle" ∧ (parseMethodDescriptor yX5_isCause.desc).map (fun d => d.parameters.length) = some 3 := by decide +kernel
abbrev wX5_isCause : List Cond := Cond.code yX5_isCause cX5_isCause 3 (some .boolean) :: wsL_law
def F_X5_isCause (a1 : Int32) (a2 : Int32) (a3 : Int32) : Int32 :=
  x_nm (F_X5_in a1.toInt64 1 999) fun z_1 => x_nm (α := Int32) (if z_1 = 0 then 0 else x_nm (a1.toNatClampNeg) fun j_9 => x_nm (F_X5_in a2.toInt64 0 3) fun z_10 => if z_10 = 0 then 0 else x_nm (a2.toNatClampNeg) fun j_16 => x_nm (F_X5_in a3.toInt64 0 4) fun z_17 => if z_17 = 0 then 0 else x_nm (a3.toNatClampNeg) fun j_23 => 1) fun u_6 => u_6
set_option maxHeartbeats 4000000 in
set_option maxRecDepth 100000 in
theorem m_X5_isCause (l : Launch) (g : x_G) (a1 : Int32) (a2 : Int32) (a3 : Int32) : x_MetI l yX5_isCause wX5_isCause rX5_isCause g [.int a1, .int a2, .int a3] [] (fun (r : Int32) (u : Unit) => (r = F_X5_isCause a1 a2 a3) ∧ (r = 0 ∨ r = 1)) (fun _ => []) := by
  refine x_startI (cc := cX5_isCause) (maxL := 3) (by decide) rfl (Nat.le_of_ble_eq_true rfl) ?_
  intro p e s m args below meth c Q A ls H locs hx hb hml hown hts hK hX hP hD hS hA hl RET
  have hown : s.vm.findClass RX5 = some m.cls := hown
  have hl : lv_has ls 3 [(0, .int a1), (1, .int a2), (2, .int a3)] := hl
  obtain ⟨o_0, hO⟩ : ∃ z, z = F_X5_isCause a1 a2 a3 := ⟨_, rfl⟩
  have E := hO
  rw [F_X5_isCause.eq_1] at E
  refine lv_iload_n hx hb dX5_isCause_0 rfl (lv_at hl 0 rfl) ?_
  refine lv_i2l (v := a1.toInt64) hx hb dX5_isCause_1 rfl ?_
  refine lv_lconst (v := 1) hx hb dX5_isCause_2 (by decide) ?_
  refine lv_ldc2 (v := 999) hx hb hown (hts _ kw_728) dX5_isCause_3 ?_
  refine x_callS0 ⟨hx, hb, hml, hown, hts⟩ hK hX hP hD hS hA (m_X5_in l g a1.toInt64 1 999) (va_cwS 3 hts (x_gS kw_129 kw_130 kw_5 kw_131) rfl rfl rfl vX5_inS ⟨Nat.le_of_ble_eq_true rfl, Nat.le_of_ble_eq_true rfl⟩) rfl hl.1 rfl (Nat.le_of_ble_eq_true rfl) dX5_isCause_6 ⟨Nat.zero_le _, Nat.zero_le _⟩ (fun z_1 _ H locs hw_2 hP hD hS => ?_)
  obtain ⟨hw_2, b_3⟩ := hw_2
  have E := x_nm_eq E hw_2
  obtain ⟨o_6, E_6, E⟩ := x_nm_ex E
  have J_6 : ∀ (v_5 : Int32), o_6 = v_5 → (v_5 = 0 ∨ v_5 = 1) → ∀ (H : Heap) (locs : List Loc) (ls : Array Slot), va_P g.1 vwCl [] H → va_D A [] → va_S A s.heap H locs → lv_has ls 3 [] → W p l e rX5_isCause s m args below meth c H locs 0 0 Q (F0 m 41 ls [.int v_5]) := by
    intro v_5 hE f_6_0 H locs ls hP hD hS hl
    try rw [hE] at E
    exact RET v_5 () H locs _ _ (⟨E.symm.trans hO, (by assumption)⟩) (x_nar (by assumption)) hP hD hS dX5_isCause_41
  have E := E_6
  refine lv_if_eq (tgt := 40) hx hb dX5_isCause_9 (by decide) (fun c_7 => ?_) (fun c_7 => ?_)
  · have E := x_pos E c_7
    refine lv_iconst (v := 0) hx hb dX5_isCause_40 (by decide) ?_
    exact J_6 0 E (Or.inl rfl) H locs ls hP hD hS (lv_sub hl [] rfl)
  · have E := x_neg E c_7
    obtain ⟨j_9, hj⟩ : ∃ z, z = (a1).toNatClampNeg := ⟨_, rfl⟩
    have r_8_0 := (x_ins (lo := 1) (hi := 999) (by omega) (by omega) (fun q => c_7 (hw_2.trans q)))
    rw [← hj] at r_8_0
    obtain ⟨r_8_0_a, r_8_0_b, e_8_0⟩ := r_8_0
    have E := x_nm_eq E hj
    have hl : lv_has ls 3 [(0, .int (nI j_9)), (1, .int a2), (2, .int a3)] := by rw [e_8_0] at hl; exact hl
    refine lv_iload_n hx hb dX5_isCause_12 rfl (lv_at hl 1 rfl) ?_
    refine lv_i2l (v := a2.toInt64) hx hb dX5_isCause_13 rfl ?_
    refine lv_lconst (v := 0) hx hb dX5_isCause_14 (by decide) ?_
    refine lv_ldc2 (v := 3) hx hb hown (hts _ kw_483) dX5_isCause_15 ?_
    refine x_callS0 ⟨hx, hb, hml, hown, hts⟩ hK hX hP hD hS hA (m_X5_in l g a2.toInt64 0 3) (va_cwS 3 hts (x_gS kw_129 kw_130 kw_5 kw_131) rfl rfl rfl vX5_inS ⟨Nat.le_of_ble_eq_true rfl, Nat.le_of_ble_eq_true rfl⟩) rfl hl.1 rfl (Nat.le_of_ble_eq_true rfl) dX5_isCause_18 ⟨Nat.zero_le _, Nat.zero_le _⟩ (fun z_10 _ H locs hw_11 hP hD hS => ?_)
    obtain ⟨hw_11, b_12⟩ := hw_11
    have E := x_nm_eq E hw_11
    refine lv_if_eq (tgt := 40) hx hb dX5_isCause_21 (by decide) (fun c_14 => ?_) (fun c_14 => ?_)
    · have E := x_pos E c_14
      refine lv_iconst (v := 0) hx hb dX5_isCause_40 (by decide) ?_
      exact J_6 0 E (Or.inl rfl) H locs ls hP hD hS (lv_sub hl [] rfl)
    · have E := x_neg E c_14
      obtain ⟨j_16, hj⟩ : ∃ z, z = (a2).toNatClampNeg := ⟨_, rfl⟩
      have r_15_0 := (x_ins (lo := 0) (hi := 3) (by omega) (by omega) (fun q => c_14 (hw_11.trans q)))
      rw [← hj] at r_15_0
      obtain ⟨r_15_0_a, r_15_0_b, e_15_0⟩ := r_15_0
      have E := x_nm_eq E hj
      have hl : lv_has ls 3 [(0, .int (nI j_9)), (1, .int (nI j_16)), (2, .int a3)] := by rw [e_15_0] at hl; exact hl
      refine lv_iload_n hx hb dX5_isCause_24 rfl (lv_at hl 2 rfl) ?_
      refine lv_i2l (v := a3.toInt64) hx hb dX5_isCause_25 rfl ?_
      refine lv_lconst (v := 0) hx hb dX5_isCause_26 (by decide) ?_
      refine lv_ldc2 (v := 4) hx hb hown (hts _ kw_729) dX5_isCause_27 ?_
      refine x_callS0 ⟨hx, hb, hml, hown, hts⟩ hK hX hP hD hS hA (m_X5_in l g a3.toInt64 0 4) (va_cwS 3 hts (x_gS kw_129 kw_130 kw_5 kw_131) rfl rfl rfl vX5_inS ⟨Nat.le_of_ble_eq_true rfl, Nat.le_of_ble_eq_true rfl⟩) rfl hl.1 rfl (Nat.le_of_ble_eq_true rfl) dX5_isCause_30 ⟨Nat.zero_le _, Nat.zero_le _⟩ (fun z_17 _ H locs hw_18 hP hD hS => ?_)
      obtain ⟨hw_18, b_19⟩ := hw_18
      have E := x_nm_eq E hw_18
      refine lv_if_eq (tgt := 40) hx hb dX5_isCause_33 (by decide) (fun c_21 => ?_) (fun c_21 => ?_)
      · have E := x_pos E c_21
        refine lv_iconst (v := 0) hx hb dX5_isCause_40 (by decide) ?_
        exact J_6 0 E (Or.inl rfl) H locs ls hP hD hS (lv_sub hl [] rfl)
      · have E := x_neg E c_21
        obtain ⟨j_23, hj⟩ : ∃ z, z = (a3).toNatClampNeg := ⟨_, rfl⟩
        have r_22_0 := (x_ins (lo := 0) (hi := 4) (by omega) (by omega) (fun q => c_21 (hw_18.trans q)))
        rw [← hj] at r_22_0
        obtain ⟨r_22_0_a, r_22_0_b, e_22_0⟩ := r_22_0
        have E := x_nm_eq E hj
        have hl : lv_has ls 3 [(0, .int (nI j_9)), (1, .int (nI j_16)), (2, .int (nI j_23))] := by rw [e_22_0] at hl; exact hl
        refine lv_iconst (v := 1) hx hb dX5_isCause_36 (by decide) ?_
        refine lv_goto (tgt := 41) hx hb dX5_isCause_37 (by decide) ?_
        exact J_6 1 E (Or.inr rfl) H locs ls hP hD hS (lv_sub hl [] rfl)
theorem x_isCause {t f k : Int32} (h : ¬ F_X5_isCause t f k = 0) : (1 ≤ t.toNatClampNeg ∧ t.toNatClampNeg ≤ 999 ∧ t = nI t.toNatClampNeg) ∧ (0 ≤ f.toNatClampNeg ∧ f.toNatClampNeg ≤ 3 ∧ f = nI f.toNatClampNeg) ∧ (0 ≤ k.toNatClampNeg ∧ k.toNatClampNeg ≤ 4 ∧ k = nI k.toNatClampNeg) := by
  simp only [F_X5_isCause, x_nm] at h
  by_cases h1 : F_X5_in t.toInt64 1 999 = 0
  · simp [h1] at h
  · by_cases h2 : F_X5_in f.toInt64 0 3 = 0
    · simp [h1, h2] at h
    · by_cases h3 : F_X5_in k.toInt64 0 4 = 0
      · simp [h1, h2, h3] at h
      · exact ⟨x_ins (lo := 1) (hi := 999) (by omega) (by omega) h1, x_ins (lo := 0) (hi := 3) (by omega) (by omega) h2, x_ins (lo := 0) (hi := 4) (by omega) (by omega) h3⟩
abbrev rX5_began : Room := { frames := 6, cells := 0, slots := 0, locals := 157 }
theorem vX5_began : yX5_began.cls = RX5 ∧ yX5_began.cls ≠ "java/lang/invoke/MethodHandle" ∧ yX5_began.cls ≠ "java/lang/invoke/VarHandle" ∧ (parseMethodDescriptor yX5_began.desc).map (fun d => d.parameters.length) = some 3 := by decide +kernel
abbrev wX5_began : List Cond := Cond.code yX5_began cX5_began 4 (some .int) :: wsL_law
def F_X5_began (t_is : Nat → Int32) (t_doings : Nat → Int32) (t_doing : Nat → Int32) (t_row : Nat → Int32) (t_when : Int32) (t_most : Int32) (t_mostAt : Int32) (t_hiss : Int32) (a1 : Int32) (a2 : Int32) (a3 : Int32) : Int32 × Int32 × Int32 × Int32 × Int32 × (Nat → Int32) × (Nat → Int32) :=
  x_nm (F_X5_isCause a1 a2 a3) fun z_1 => x_nm (α := Int32 × Int32 × Int32 × Int32 × Int32 × (Nat → Int32) × (Nat → Int32)) (if z_1 = 0 then ((-1), t_when, t_most, t_mostAt, t_hiss, t_is, t_row) else x_nm (a1.toNatClampNeg) fun j_15 => x_nm (a2.toNatClampNeg) fun j_16 => x_nm (a3.toNatClampNeg) fun j_17 => x_nm (F_X5_begun t_is t_doings t_doing t_row t_when t_most t_mostAt t_hiss (nI j_15) (nI j_16) (nI j_17)) fun u_26 => (u_26.1, u_26.2.1, u_26.2.2.1, u_26.2.2.2.1, u_26.2.2.2.2.1, u_26.2.2.2.2.2.1, u_26.2.2.2.2.2.2)) fun u_12 => (u_12.1, u_12.2.1, u_12.2.2.1, u_12.2.2.2.1, u_12.2.2.2.2.1, u_12.2.2.2.2.2.1, u_12.2.2.2.2.2.2)
set_option maxHeartbeats 4000000 in
set_option maxRecDepth 100000 in
theorem m_X5_began (l : Launch) (g : x_G) (tA tA_is tA_doings tA_doing tA_row tA_text tA_isKept tA_best tA_heats tA_orders tA_has tA_salt tA_crumbs : Nat) (t_length : Nat) (t_at : Nat) (t_begin : Nat) (t_told : Int32) (t_items : Int32) (t_when : Int32) (t_most : Int32) (t_mostAt : Int32) (t_hiss : Int32) (t_tests : Nat) (t_traced : Int64) (t_hasSkin : Int32) (t_hasBend : Int32) (t_is : Nat → Int32) (t_doings : Nat → Int32) (t_doing : Nat → Int32) (t_row : Nat → Int32) (a1 : Int32) (a2 : Int32) (a3 : Int32) (h_0 : (t_doings 0).toNatClampNeg ≤ 12) (h_1 : t_doings 0 = nI (t_doings 0).toNatClampNeg) (h_2 : ∀ k : Nat, k < 12 → (t_doing (3 * k + 2)).toNatClampNeg ≤ 99 ∧ t_doing (3 * k + 2) = nI (t_doing (3 * k + 2)).toNatClampNeg) (h_3 : ¬ 8 * t_is 0 = 0) : x_MetI l yX5_began wX5_began rX5_began g [.ref tA, .int a1, .int a2, .int a3] [(tA, .inr (5, [.int (nI t_length), .ref tA_text, .int (nI t_at), .int (nI t_begin), .int t_told, .ref tA_is, .ref tA_doings, .ref tA_doing, .int t_items, .ref tA_row, .ref tA_isKept, .int t_when, .int t_most, .int t_mostAt, .int t_hiss, .ref tA_best, .ref tA_heats, .ref tA_orders, .ref tA_has, .int (nI t_tests), .ref tA_salt, .ref tA_crumbs, .long t_traced, .int t_hasSkin, .int t_hasBend])), (tA_is, .inl (g.2.1 0, 18, .inl t_is)), (tA_doings, .inl (g.2.1 0, 2, .inl t_doings)), (tA_doing, .inl (g.2.1 0, 72, .inl t_doing)), (tA_row, .inl (g.2.1 0, 80, .inl t_row))] (fun (r : Int32) (u : Int32 × Int32 × Int32 × Int32 × (Nat → Int32) × (Nat → Int32)) => (r, u) = F_X5_began t_is t_doings t_doing t_row t_when t_most t_mostAt t_hiss a1 a2 a3) (fun u => [(tA, .inr (5, [.int (nI t_length), .ref tA_text, .int (nI t_at), .int (nI t_begin), .int t_told, .ref tA_is, .ref tA_doings, .ref tA_doing, .int t_items, .ref tA_row, .ref tA_isKept, .int u.1, .int u.2.1, .int u.2.2.1, .int u.2.2.2.1, .ref tA_best, .ref tA_heats, .ref tA_orders, .ref tA_has, .int (nI t_tests), .ref tA_salt, .ref tA_crumbs, .long t_traced, .int t_hasSkin, .int t_hasBend])), (tA_is, .inl (g.2.1 0, 18, .inl u.2.2.2.2.1)), (tA_doings, .inl (g.2.1 0, 2, .inl t_doings)), (tA_doing, .inl (g.2.1 0, 72, .inl t_doing)), (tA_row, .inl (g.2.1 0, 80, .inl u.2.2.2.2.2))]) := by
  refine x_startI (cc := cX5_began) (maxL := 4) (by decide) rfl (Nat.le_of_ble_eq_true rfl) ?_
  intro p e s m args below meth c Q A ls H locs hx hb hml hown hts hK hX hP hD hS hA hl RET
  have hown : s.vm.findClass RX5 = some m.cls := hown
  have hl : lv_has ls 4 [(0, .ref tA), (1, .int a1), (2, .int a2), (3, .int a3)] := hl
  obtain ⟨o_0, hO⟩ : ∃ z, z = F_X5_began t_is t_doings t_doing t_row t_when t_most t_mostAt t_hiss a1 a2 a3 := ⟨_, rfl⟩
  have E := hO
  rw [F_X5_began.eq_1] at E
  refine lv_iload_n hx hb dX5_began_0 rfl (lv_at hl 1 rfl) ?_
  refine lv_iload_n hx hb dX5_began_1 rfl (lv_at hl 2 rfl) ?_
  refine lv_iload_n hx hb dX5_began_2 rfl (lv_at hl 3 rfl) ?_
  refine x_callS0 ⟨hx, hb, hml, hown, hts⟩ hK hX hP hD hS hA (m_X5_isCause l g a1 a2 a3) (va_cwS 3 hts (x_gS kw_725 kw_726 kw_5 kw_727) rfl rfl rfl vX5_isCauseS ⟨Nat.le_of_ble_eq_true rfl, Nat.le_of_ble_eq_true rfl⟩) rfl hl.1 rfl (Nat.le_of_ble_eq_true rfl) dX5_began_3 ⟨Nat.zero_le _, Nat.zero_le _⟩ (fun z_1 _ H locs hw_2 hP hD hS => ?_)
  obtain ⟨hw_2, b_3⟩ := hw_2
  have E := x_nm_eq E hw_2
  obtain ⟨o_12, E_12, E⟩ := x_nm_ex E
  have J_12 : ∀ (v_5 : Int32) (t_when_6 : Int32) (t_most_7 : Int32) (t_mostAt_8 : Int32) (t_hiss_9 : Int32) (t_is_10 : Nat → Int32) (t_row_11 : Nat → Int32), o_12 = (v_5, t_when_6, t_most_7, t_mostAt_8, t_hiss_9, t_is_10, t_row_11) → ∀ (H : Heap) (locs : List Loc) (ls : Array Slot), va_P g.1 vwCl [(tA, .inr (5, [.int (nI t_length), .ref tA_text, .int (nI t_at), .int (nI t_begin), .int t_told, .ref tA_is, .ref tA_doings, .ref tA_doing, .int t_items, .ref tA_row, .ref tA_isKept, .int t_when_6, .int t_most_7, .int t_mostAt_8, .int t_hiss_9, .ref tA_best, .ref tA_heats, .ref tA_orders, .ref tA_has, .int (nI t_tests), .ref tA_salt, .ref tA_crumbs, .long t_traced, .int t_hasSkin, .int t_hasBend])), (tA_is, .inl (g.2.1 0, 18, .inl t_is_10)), (tA_doings, .inl (g.2.1 0, 2, .inl t_doings)), (tA_doing, .inl (g.2.1 0, 72, .inl t_doing)), (tA_row, .inl (g.2.1 0, 80, .inl t_row_11))] H → va_D A [(tA, .inr (5, [.int (nI t_length), .ref tA_text, .int (nI t_at), .int (nI t_begin), .int t_told, .ref tA_is, .ref tA_doings, .ref tA_doing, .int t_items, .ref tA_row, .ref tA_isKept, .int t_when_6, .int t_most_7, .int t_mostAt_8, .int t_hiss_9, .ref tA_best, .ref tA_heats, .ref tA_orders, .ref tA_has, .int (nI t_tests), .ref tA_salt, .ref tA_crumbs, .long t_traced, .int t_hasSkin, .int t_hasBend])), (tA_is, .inl (g.2.1 0, 18, .inl t_is_10)), (tA_doings, .inl (g.2.1 0, 2, .inl t_doings)), (tA_doing, .inl (g.2.1 0, 72, .inl t_doing)), (tA_row, .inl (g.2.1 0, 80, .inl t_row_11))] → va_S A s.heap H locs → lv_has ls 4 [] → W p l e rX5_began s m args below meth c H locs 0 0 Q (F0 m 20 ls [.int v_5]) := by
    intro v_5 t_when_6 t_most_7 t_mostAt_8 t_hiss_9 t_is_10 t_row_11 hE  H locs ls hP hD hS hl
    try rw [hE] at E
    exact RET v_5 (t_when_6, t_most_7, t_mostAt_8, t_hiss_9, t_is_10, t_row_11) H locs _ _ (E.symm.trans hO) rfl hP hD hS dX5_began_20
  have E := E_12
  refine lv_if_eq (tgt := 19) hx hb dX5_began_6 (by decide) (fun c_13 => ?_) (fun c_13 => ?_)
  · have E := x_pos E c_13
    refine lv_iconst (v := (-1)) hx hb dX5_began_19 (by decide) ?_
    exact J_12 (-1) t_when t_most t_mostAt t_hiss t_is t_row E  H locs ls hP hD hS (lv_sub hl [] rfl)
  · have E := x_neg E c_13
    have r_14 := x_isCause (fun q => c_13 (hw_2.trans q))
    obtain ⟨j_15, hj⟩ : ∃ z, z = (a1).toNatClampNeg := ⟨_, rfl⟩
    have r_14_0 := r_14.1
    rw [← hj] at r_14_0
    obtain ⟨r_14_0_a, r_14_0_b, e_14_0⟩ := r_14_0
    have E := x_nm_eq E hj
    have hl : lv_has ls 4 [(0, .ref tA), (1, .int (nI j_15)), (2, .int a2), (3, .int a3)] := by rw [e_14_0] at hl; exact hl
    obtain ⟨j_16, hj⟩ : ∃ z, z = (a2).toNatClampNeg := ⟨_, rfl⟩
    have r_14_1 := r_14.2.1
    rw [← hj] at r_14_1
    obtain ⟨r_14_1_a, r_14_1_b, e_14_1⟩ := r_14_1
    have E := x_nm_eq E hj
    have hl : lv_has ls 4 [(0, .ref tA), (1, .int (nI j_15)), (2, .int (nI j_16)), (3, .int a3)] := by rw [e_14_1] at hl; exact hl
    obtain ⟨j_17, hj⟩ : ∃ z, z = (a3).toNatClampNeg := ⟨_, rfl⟩
    have r_14_2 := r_14.2.2
    rw [← hj] at r_14_2
    obtain ⟨r_14_2_a, r_14_2_b, e_14_2⟩ := r_14_2
    have E := x_nm_eq E hj
    have hl : lv_has ls 4 [(0, .ref tA), (1, .int (nI j_15)), (2, .int (nI j_16)), (3, .int (nI j_17))] := by rw [e_14_2] at hl; exact hl
    refine lv_aload_n hx hb dX5_began_9 rfl (lv_at hl 0 rfl) ?_
    refine lv_iload_n hx hb dX5_began_10 rfl (lv_at hl 1 rfl) ?_
    refine lv_iload_n hx hb dX5_began_11 rfl (lv_at hl 2 rfl) ?_
    refine lv_iload_n hx hb dX5_began_12 rfl (lv_at hl 3 rfl) ?_
    refine x_callVi (w2 := fun u => [(tA, .inr (5, [.int (nI t_length), .ref tA_text, .int (nI t_at), .int (nI t_begin), .int t_told, .ref tA_is, .ref tA_doings, .ref tA_doing, .int t_items, .ref tA_row, .ref tA_isKept, .int u.1, .int u.2.1, .int u.2.2.1, .int u.2.2.2.1, .ref tA_best, .ref tA_heats, .ref tA_orders, .ref tA_has, .int (nI t_tests), .ref tA_salt, .ref tA_crumbs, .long t_traced, .int t_hasSkin, .int t_hasBend])), (tA_is, .inl (g.2.1 0, 18, .inl u.2.2.2.2.1)), (tA_doings, .inl (g.2.1 0, 2, .inl t_doings)), (tA_doing, .inl (g.2.1 0, 72, .inl t_doing)), (tA_row, .inl (g.2.1 0, 80, .inl u.2.2.2.2.2))]) (wr := []) [0, 1, 2, 3, 4] [] [0, 1, 2, 3, 4] 0 5 ⟨hx, hb, hml, hown, hts⟩ hK hX hP hD hS hA (m_X5_begun l g tA tA_is tA_doings tA_doing tA_row tA_text tA_isKept tA_best tA_heats tA_orders tA_has tA_salt tA_crumbs t_length t_at t_begin t_told t_items t_when t_most t_mostAt t_hiss t_tests t_traced t_hasSkin t_hasBend t_is t_doings t_doing t_row (nI j_15) (nI j_16) (nI j_17) (by first | assumption | omega | exact x_e8 (by assumption) (by assumption)) (by first | assumption | omega | exact x_e8 (by assumption) (by assumption)) (by first | assumption | omega | exact x_e8 (by assumption) (by assumption)) (by first | assumption | omega | exact x_e8 (by assumption) (by assumption))) (cwV 3 hts (x_gV kw_730 kw_731 kw_732 kw_5 kw_733) rfl rfl rfl vX5_begun ⟨Nat.le_of_ble_eq_true rfl, Nat.le_of_ble_eq_true rfl⟩) rfl rfl rfl rfl rfl rfl rfl (by decide) (fun _ => rfl) rfl rfl hl.1 rfl (Nat.le_of_ble_eq_true rfl) dX5_began_13 ⟨Nat.zero_le _, Nat.zero_le _⟩ (fun z_24 u H locs hw_25 hP hD hS => ?_)
    obtain ⟨t_when_18, t_most_19, t_mostAt_20, t_hiss_21, t_is_22, t_row_23⟩ := u
    obtain ⟨hw_25, en_13_0, en_13_1⟩ := hw_25
    have en_13_0 : z_24 = nI (z_24).toNatClampNeg ∧ (z_24).toNatClampNeg ≤ 9 := en_13_0
    have en_13_1 : t_is_22 0 = t_is 0 := en_13_1
    have hP : va_P g.1 vwCl [(tA, .inr (5, [.int (nI t_length), .ref tA_text, .int (nI t_at), .int (nI t_begin), .int t_told, .ref tA_is, .ref tA_doings, .ref tA_doing, .int t_items, .ref tA_row, .ref tA_isKept, .int t_when_18, .int t_most_19, .int t_mostAt_20, .int t_hiss_21, .ref tA_best, .ref tA_heats, .ref tA_orders, .ref tA_has, .int (nI t_tests), .ref tA_salt, .ref tA_crumbs, .long t_traced, .int t_hasSkin, .int t_hasBend])), (tA_is, .inl (g.2.1 0, 18, .inl t_is_22)), (tA_doings, .inl (g.2.1 0, 2, .inl t_doings)), (tA_doing, .inl (g.2.1 0, 72, .inl t_doing)), (tA_row, .inl (g.2.1 0, 80, .inl t_row_23))] H := hP
    have hD : va_D A [(tA, .inr (5, [.int (nI t_length), .ref tA_text, .int (nI t_at), .int (nI t_begin), .int t_told, .ref tA_is, .ref tA_doings, .ref tA_doing, .int t_items, .ref tA_row, .ref tA_isKept, .int t_when_18, .int t_most_19, .int t_mostAt_20, .int t_hiss_21, .ref tA_best, .ref tA_heats, .ref tA_orders, .ref tA_has, .int (nI t_tests), .ref tA_salt, .ref tA_crumbs, .long t_traced, .int t_hasSkin, .int t_hasBend])), (tA_is, .inl (g.2.1 0, 18, .inl t_is_22)), (tA_doings, .inl (g.2.1 0, 2, .inl t_doings)), (tA_doing, .inl (g.2.1 0, 72, .inl t_doing)), (tA_row, .inl (g.2.1 0, 80, .inl t_row_23))] := hD
    have E := x_nm_eq E hw_25
    refine lv_goto (tgt := 20) hx hb dX5_began_16 (by decide) ?_
    exact J_12 z_24 t_when_18 t_most_19 t_mostAt_20 t_hiss_21 t_is_22 t_row_23 E  H locs ls hP hD hS (lv_sub hl [] rfl)
abbrev rX5_why : Room := { frames := 6, cells := 0, slots := 0, locals := 157 }
theorem vX5_why : yX5_why.cls = RX5 ∧ yX5_why.cls ≠ "java/lang/invoke/MethodHandle" ∧ yX5_why.cls ≠ "java/lang/invoke/VarHandle" ∧ (parseMethodDescriptor yX5_why.desc).map (fun d => d.parameters.length) = some 4 := by decide +kernel
abbrev wX5_why : List Cond := Cond.code yX5_why cX5_why 10 (some .int) :: wsL_law
def F_X5_why_L78 : Nat → Nat → Nat → Nat
  | 0, k7_40, k8_41 => k7_40
  | n_42 + 1, k7_40, k8_41 => if k8_41 = 0 then k7_40 else F_X5_why_L78 n_42 k8_41 (k7_40 % k8_41)
def F_X5_why_L28 (t_doings : Nat → Int32) (t_doing : Nat → Int32) (j_7 : Nat) (j_8 : Nat) : Nat → Nat → Nat → Int32 → Int32 → Int32 → Int32 → (Nat → Int32) → (Nat → Int32) → Nat × Int32 × Int32 × Int32 × Int32 × (Nat → Int32) × (Nat → Int32)
  | 0, k5_44, k6_45, t_when_46, t_most_47, t_mostAt_48, t_hiss_49, t_is_50, t_row_51 => (k5_44, t_when_46, t_most_47, t_mostAt_48, t_hiss_49, t_is_50, t_row_51)
  | n_52 + 1, k5_44, k6_45, t_when_46, t_most_47, t_mostAt_48, t_hiss_49, t_is_50, t_row_51 => if 5 ≤ k6_45 then (k5_44, t_when_46, t_most_47, t_mostAt_48, t_hiss_49, t_is_50, t_row_51) else x_nm (F_X5_begun t_is_50 t_doings t_doing t_row_51 t_when_46 t_most_47 t_mostAt_48 t_hiss_49 (nI j_7) (nI j_8) (nI k6_45)) fun u_62 => F_X5_why_L28 t_doings t_doing j_7 j_8 n_52 (k5_44 + ((u_62.1).toNatClampNeg)) (k6_45 + 1) u_62.2.1 u_62.2.2.1 u_62.2.2.2.1 u_62.2.2.2.2.1 u_62.2.2.2.2.2.1 u_62.2.2.2.2.2.2
def F_X5_why (t_is : Nat → Int32) (t_doings : Nat → Int32) (t_doing : Nat → Int32) (t_row : Nat → Int32) (t_when : Int32) (t_most : Int32) (t_mostAt : Int32) (t_hiss : Int32) (a1 : Int32) (a2 : Int32) (a3 : Int32) (a4 : Int32) : Int32 × Int32 × Int32 × Int32 × Int32 × (Nat → Int32) × (Nat → Int32) :=
  x_nm (F_X5_isCause a1 a2 a3) fun z_1 => if z_1 = 0 then ((-1), t_when, t_most, t_mostAt, t_hiss, t_is, t_row) else x_nm (a1.toNatClampNeg) fun j_7 => x_nm (a2.toNatClampNeg) fun j_8 => x_nm (a3.toNatClampNeg) fun j_9 => x_nm (F_X5_in a4.toInt64 0 1) fun z_10 => if z_10 = 0 then ((-1), t_when, t_most, t_mostAt, t_hiss, t_is, t_row) else x_nm (a4.toNatClampNeg) fun j_16 => x_nm (α := Nat × Int32 × Int32 × Int32 × Int32 × (Nat → Int32) × (Nat → Int32)) (F_X5_why_L28 t_doings t_doing j_7 j_8 (5 + 1) 0 0 t_when t_most t_mostAt t_hiss t_is t_row) fun u_24 => if u_24.1 = 0 then ((-2), u_24.2.1, u_24.2.2.1, u_24.2.2.2.1, u_24.2.2.2.2.1, u_24.2.2.2.2.2.1, u_24.2.2.2.2.2.2) else x_nm (F_X5_begun u_24.2.2.2.2.2.1 t_doings t_doing u_24.2.2.2.2.2.2 u_24.2.1 u_24.2.2.1 u_24.2.2.2.1 u_24.2.2.2.2.1 (nI j_7) (nI j_8) (nI j_9)) fun u_34 => x_nm (α := Nat) (F_X5_why_L78 46 ((u_34.1).toNatClampNeg) u_24.1) fun u_36 => x_nm (α := Int32) (if j_16 = 0 then nI (((u_34.1).toNatClampNeg) / u_36) else nI (u_24.1 / u_36)) fun u_38 => (u_38, u_34.2.1, u_34.2.2.1, u_34.2.2.2.1, u_34.2.2.2.2.1, u_34.2.2.2.2.2.1, u_34.2.2.2.2.2.2)
set_option maxHeartbeats 4000000 in
set_option maxRecDepth 100000 in
theorem m_X5_why (l : Launch) (g : x_G) (tA tA_is tA_doings tA_doing tA_row tA_text tA_isKept tA_best tA_heats tA_orders tA_has tA_salt tA_crumbs : Nat) (t_length : Nat) (t_at : Nat) (t_begin : Nat) (t_told : Int32) (t_items : Int32) (t_when : Int32) (t_most : Int32) (t_mostAt : Int32) (t_hiss : Int32) (t_tests : Nat) (t_traced : Int64) (t_hasSkin : Int32) (t_hasBend : Int32) (t_is : Nat → Int32) (t_doings : Nat → Int32) (t_doing : Nat → Int32) (t_row : Nat → Int32) (a1 : Int32) (a2 : Int32) (a3 : Int32) (a4 : Int32) (h_0 : (t_doings 0).toNatClampNeg ≤ 12) (h_1 : t_doings 0 = nI (t_doings 0).toNatClampNeg) (h_2 : ∀ k : Nat, k < 12 → (t_doing (3 * k + 2)).toNatClampNeg ≤ 99 ∧ t_doing (3 * k + 2) = nI (t_doing (3 * k + 2)).toNatClampNeg) (h_3 : ¬ 8 * t_is 0 = 0) : x_MetI l yX5_why wX5_why rX5_why g [.ref tA, .int a1, .int a2, .int a3, .int a4] [(tA, .inr (5, [.int (nI t_length), .ref tA_text, .int (nI t_at), .int (nI t_begin), .int t_told, .ref tA_is, .ref tA_doings, .ref tA_doing, .int t_items, .ref tA_row, .ref tA_isKept, .int t_when, .int t_most, .int t_mostAt, .int t_hiss, .ref tA_best, .ref tA_heats, .ref tA_orders, .ref tA_has, .int (nI t_tests), .ref tA_salt, .ref tA_crumbs, .long t_traced, .int t_hasSkin, .int t_hasBend])), (tA_is, .inl (g.2.1 0, 18, .inl t_is)), (tA_doings, .inl (g.2.1 0, 2, .inl t_doings)), (tA_doing, .inl (g.2.1 0, 72, .inl t_doing)), (tA_row, .inl (g.2.1 0, 80, .inl t_row))] (fun (r : Int32) (u : Int32 × Int32 × Int32 × Int32 × (Nat → Int32) × (Nat → Int32)) => (r, u) = F_X5_why t_is t_doings t_doing t_row t_when t_most t_mostAt t_hiss a1 a2 a3 a4) (fun u => [(tA, .inr (5, [.int (nI t_length), .ref tA_text, .int (nI t_at), .int (nI t_begin), .int t_told, .ref tA_is, .ref tA_doings, .ref tA_doing, .int t_items, .ref tA_row, .ref tA_isKept, .int u.1, .int u.2.1, .int u.2.2.1, .int u.2.2.2.1, .ref tA_best, .ref tA_heats, .ref tA_orders, .ref tA_has, .int (nI t_tests), .ref tA_salt, .ref tA_crumbs, .long t_traced, .int t_hasSkin, .int t_hasBend])), (tA_is, .inl (g.2.1 0, 18, .inl u.2.2.2.2.1)), (tA_doings, .inl (g.2.1 0, 2, .inl t_doings)), (tA_doing, .inl (g.2.1 0, 72, .inl t_doing)), (tA_row, .inl (g.2.1 0, 80, .inl u.2.2.2.2.2))]) := by
  refine x_startI (cc := cX5_why) (maxL := 10) (by decide) rfl (Nat.le_of_ble_eq_true rfl) ?_
  intro p e s m args below meth c Q A ls H locs hx hb hml hown hts hK hX hP hD hS hA hl RET
  have hown : s.vm.findClass RX5 = some m.cls := hown
  have hl : lv_has ls 10 [(0, .ref tA), (1, .int a1), (2, .int a2), (3, .int a3), (4, .int a4)] := hl
  obtain ⟨o_0, hO⟩ : ∃ z, z = F_X5_why t_is t_doings t_doing t_row t_when t_most t_mostAt t_hiss a1 a2 a3 a4 := ⟨_, rfl⟩
  have E := hO
  rw [F_X5_why.eq_1] at E
  refine lv_iload_n hx hb dX5_why_0 rfl (lv_at hl 1 rfl) ?_
  refine lv_iload_n hx hb dX5_why_1 rfl (lv_at hl 2 rfl) ?_
  refine lv_iload_n hx hb dX5_why_2 rfl (lv_at hl 3 rfl) ?_
  refine x_callS0 ⟨hx, hb, hml, hown, hts⟩ hK hX hP hD hS hA (m_X5_isCause l g a1 a2 a3) (va_cwS 3 hts (x_gS kw_725 kw_726 kw_5 kw_727) rfl rfl rfl vX5_isCauseS ⟨Nat.le_of_ble_eq_true rfl, Nat.le_of_ble_eq_true rfl⟩) rfl hl.1 rfl (Nat.le_of_ble_eq_true rfl) dX5_why_3 ⟨Nat.zero_le _, Nat.zero_le _⟩ (fun z_1 _ H locs hw_2 hP hD hS => ?_)
  obtain ⟨hw_2, b_3⟩ := hw_2
  have E := x_nm_eq E hw_2
  refine lv_if_eq (tgt := 20) hx hb dX5_why_6 (by decide) (fun c_5 => ?_) (fun c_5 => ?_)
  · have E := x_pos E c_5
    refine lv_iconst (v := (-1)) hx hb dX5_why_20 (by decide) ?_
    exact RET (-1) (t_when, t_most, t_mostAt, t_hiss, t_is, t_row) H locs _ _ (E.symm.trans hO) rfl hP hD hS dX5_why_21
  · have E := x_neg E c_5
    have r_6 := x_isCause (fun q => c_5 (hw_2.trans q))
    obtain ⟨j_7, hj⟩ : ∃ z, z = (a1).toNatClampNeg := ⟨_, rfl⟩
    have r_6_0 := r_6.1
    rw [← hj] at r_6_0
    obtain ⟨r_6_0_a, r_6_0_b, e_6_0⟩ := r_6_0
    have E := x_nm_eq E hj
    have hl : lv_has ls 10 [(0, .ref tA), (1, .int (nI j_7)), (2, .int a2), (3, .int a3), (4, .int a4)] := by rw [e_6_0] at hl; exact hl
    obtain ⟨j_8, hj⟩ : ∃ z, z = (a2).toNatClampNeg := ⟨_, rfl⟩
    have r_6_1 := r_6.2.1
    rw [← hj] at r_6_1
    obtain ⟨r_6_1_a, r_6_1_b, e_6_1⟩ := r_6_1
    have E := x_nm_eq E hj
    have hl : lv_has ls 10 [(0, .ref tA), (1, .int (nI j_7)), (2, .int (nI j_8)), (3, .int a3), (4, .int a4)] := by rw [e_6_1] at hl; exact hl
    obtain ⟨j_9, hj⟩ : ∃ z, z = (a3).toNatClampNeg := ⟨_, rfl⟩
    have r_6_2 := r_6.2.2
    rw [← hj] at r_6_2
    obtain ⟨r_6_2_a, r_6_2_b, e_6_2⟩ := r_6_2
    have E := x_nm_eq E hj
    have hl : lv_has ls 10 [(0, .ref tA), (1, .int (nI j_7)), (2, .int (nI j_8)), (3, .int (nI j_9)), (4, .int a4)] := by rw [e_6_2] at hl; exact hl
    refine lv_iload hx hb dX5_why_9 (lv_at hl 4 rfl) ?_
    refine lv_i2l (v := a4.toInt64) hx hb dX5_why_11 rfl ?_
    refine lv_lconst (v := 0) hx hb dX5_why_12 (by decide) ?_
    refine lv_lconst (v := 1) hx hb dX5_why_13 (by decide) ?_
    refine x_callS0 ⟨hx, hb, hml, hown, hts⟩ hK hX hP hD hS hA (m_X5_in l g a4.toInt64 0 1) (va_cwS 3 hts (x_gS kw_129 kw_130 kw_5 kw_131) rfl rfl rfl vX5_inS ⟨Nat.le_of_ble_eq_true rfl, Nat.le_of_ble_eq_true rfl⟩) rfl hl.1 rfl (Nat.le_of_ble_eq_true rfl) dX5_why_14 ⟨Nat.zero_le _, Nat.zero_le _⟩ (fun z_10 _ H locs hw_11 hP hD hS => ?_)
    obtain ⟨hw_11, b_12⟩ := hw_11
    have E := x_nm_eq E hw_11
    refine x_if_neI (tgt := 22) hx hb dX5_why_17 (by decide) (fun c_14 => ?_) (fun c_14 => ?_)
    · have E := x_neg E c_14
      obtain ⟨j_16, hj⟩ : ∃ z, z = (a4).toNatClampNeg := ⟨_, rfl⟩
      have r_15_0 := (x_ins (lo := 0) (hi := 1) (by omega) (by omega) (fun q => c_14 (hw_11.trans q)))
      rw [← hj] at r_15_0
      obtain ⟨r_15_0_a, r_15_0_b, e_15_0⟩ := r_15_0
      have E := x_nm_eq E hj
      have hl : lv_has ls 10 [(0, .ref tA), (1, .int (nI j_7)), (2, .int (nI j_8)), (3, .int (nI j_9)), (4, .int (nI j_16))] := by rw [e_15_0] at hl; exact hl
      refine lv_iconst (v := 0) hx hb dX5_why_22 (by decide) ?_
      refine lv_istore (lv' := [(5, .int 0), (0, .ref tA), (1, .int (nI j_7)), (2, .int (nI j_8)), (3, .int (nI j_9)), (4, .int (nI j_16))]) hx hb dX5_why_23 hl (by decide) rfl (fun ls hl => ?_)
      refine lv_iconst (v := 0) hx hb dX5_why_25 (by decide) ?_
      refine lv_istore (lv' := [(6, .int 0), (5, .int 0), (0, .ref tA), (1, .int (nI j_7)), (2, .int (nI j_8)), (3, .int (nI j_9)), (4, .int (nI j_16))]) hx hb dX5_why_26 hl (by decide) rfl (fun ls hl => ?_)
      obtain ⟨o_24, E_24, E⟩ := x_nm_ex E
      have J_24 : ∀ (l5_17 : Nat) (t_when_18 : Int32) (t_most_19 : Int32) (t_mostAt_20 : Int32) (t_hiss_21 : Int32) (t_is_22 : Nat → Int32) (t_row_23 : Nat → Int32), o_24 = (l5_17, t_when_18, t_most_19, t_mostAt_20, t_hiss_21, t_is_22, t_row_23) → (l5_17 ≤ 45) → (t_is_22 0 = t_is 0) → ∀ (H : Heap) (locs : List Loc) (ls : Array Slot), va_P g.1 vwCl [(tA, .inr (5, [.int (nI t_length), .ref tA_text, .int (nI t_at), .int (nI t_begin), .int t_told, .ref tA_is, .ref tA_doings, .ref tA_doing, .int t_items, .ref tA_row, .ref tA_isKept, .int t_when_18, .int t_most_19, .int t_mostAt_20, .int t_hiss_21, .ref tA_best, .ref tA_heats, .ref tA_orders, .ref tA_has, .int (nI t_tests), .ref tA_salt, .ref tA_crumbs, .long t_traced, .int t_hasSkin, .int t_hasBend])), (tA_is, .inl (g.2.1 0, 18, .inl t_is_22)), (tA_doings, .inl (g.2.1 0, 2, .inl t_doings)), (tA_doing, .inl (g.2.1 0, 72, .inl t_doing)), (tA_row, .inl (g.2.1 0, 80, .inl t_row_23))] H → va_D A [(tA, .inr (5, [.int (nI t_length), .ref tA_text, .int (nI t_at), .int (nI t_begin), .int t_told, .ref tA_is, .ref tA_doings, .ref tA_doing, .int t_items, .ref tA_row, .ref tA_isKept, .int t_when_18, .int t_most_19, .int t_mostAt_20, .int t_hiss_21, .ref tA_best, .ref tA_heats, .ref tA_orders, .ref tA_has, .int (nI t_tests), .ref tA_salt, .ref tA_crumbs, .long t_traced, .int t_hasSkin, .int t_hasBend])), (tA_is, .inl (g.2.1 0, 18, .inl t_is_22)), (tA_doings, .inl (g.2.1 0, 2, .inl t_doings)), (tA_doing, .inl (g.2.1 0, 72, .inl t_doing)), (tA_row, .inl (g.2.1 0, 80, .inl t_row_23))] → va_S A s.heap H locs → lv_has ls 10 [(0, .ref tA), (1, .int (nI j_7)), (2, .int (nI j_8)), (3, .int (nI j_9)), (4, .int (nI j_16)), (5, .int (nI l5_17))] → W p l e rX5_why s m args below meth c H locs 0 0 Q (F0 m 53 ls []) := by
        intro l5_17 t_when_18 t_most_19 t_mostAt_20 t_hiss_21 t_is_22 t_row_23 hE f_24_0 f_24_1 H locs ls hP hD hS hl
        try rw [hE] at E
        refine lv_iload hx hb dX5_why_53 (lv_at hl 5 rfl) ?_
        refine x_if_ne (a := l5_17) (tgt := 61) hx hb (by omega) dX5_why_55 (by decide) (fun c_25 => ?_) (fun c_25 => ?_)
        · have E := x_neg E c_25
          refine lv_aload_n hx hb dX5_why_61 rfl (lv_at hl 0 rfl) ?_
          refine lv_iload_n hx hb dX5_why_62 rfl (lv_at hl 1 rfl) ?_
          refine lv_iload_n hx hb dX5_why_63 rfl (lv_at hl 2 rfl) ?_
          refine lv_iload_n hx hb dX5_why_64 rfl (lv_at hl 3 rfl) ?_
          refine x_callVi (w2 := fun u => [(tA, .inr (5, [.int (nI t_length), .ref tA_text, .int (nI t_at), .int (nI t_begin), .int t_told, .ref tA_is, .ref tA_doings, .ref tA_doing, .int t_items, .ref tA_row, .ref tA_isKept, .int u.1, .int u.2.1, .int u.2.2.1, .int u.2.2.2.1, .ref tA_best, .ref tA_heats, .ref tA_orders, .ref tA_has, .int (nI t_tests), .ref tA_salt, .ref tA_crumbs, .long t_traced, .int t_hasSkin, .int t_hasBend])), (tA_is, .inl (g.2.1 0, 18, .inl u.2.2.2.2.1)), (tA_doings, .inl (g.2.1 0, 2, .inl t_doings)), (tA_doing, .inl (g.2.1 0, 72, .inl t_doing)), (tA_row, .inl (g.2.1 0, 80, .inl u.2.2.2.2.2))]) (wr := []) [0, 1, 2, 3, 4] [] [0, 1, 2, 3, 4] 0 5 ⟨hx, hb, hml, hown, hts⟩ hK hX hP hD hS hA (m_X5_begun l g tA tA_is tA_doings tA_doing tA_row tA_text tA_isKept tA_best tA_heats tA_orders tA_has tA_salt tA_crumbs t_length t_at t_begin t_told t_items t_when_18 t_most_19 t_mostAt_20 t_hiss_21 t_tests t_traced t_hasSkin t_hasBend t_is_22 t_doings t_doing t_row_23 (nI j_7) (nI j_8) (nI j_9) (by first | assumption | omega | exact x_e8 (by assumption) (by assumption)) (by first | assumption | omega | exact x_e8 (by assumption) (by assumption)) (by first | assumption | omega | exact x_e8 (by assumption) (by assumption)) (by first | assumption | omega | exact x_e8 (by assumption) (by assumption))) (cwV 3 hts (x_gV kw_730 kw_731 kw_732 kw_5 kw_733) rfl rfl rfl vX5_begun ⟨Nat.le_of_ble_eq_true rfl, Nat.le_of_ble_eq_true rfl⟩) rfl rfl rfl rfl rfl rfl rfl (by decide) (fun _ => rfl) rfl rfl hl.1 rfl (Nat.le_of_ble_eq_true rfl) dX5_why_65 ⟨Nat.zero_le _, Nat.zero_le _⟩ (fun z_32 u H locs hw_33 hP hD hS => ?_)
          obtain ⟨t_when_26, t_most_27, t_mostAt_28, t_hiss_29, t_is_30, t_row_31⟩ := u
          obtain ⟨hw_33, en_65_0, en_65_1⟩ := hw_33
          have en_65_0 : z_32 = nI (z_32).toNatClampNeg ∧ (z_32).toNatClampNeg ≤ 9 := en_65_0
          have en_65_1 : t_is_30 0 = t_is_22 0 := en_65_1
          have hP : va_P g.1 vwCl [(tA, .inr (5, [.int (nI t_length), .ref tA_text, .int (nI t_at), .int (nI t_begin), .int t_told, .ref tA_is, .ref tA_doings, .ref tA_doing, .int t_items, .ref tA_row, .ref tA_isKept, .int t_when_26, .int t_most_27, .int t_mostAt_28, .int t_hiss_29, .ref tA_best, .ref tA_heats, .ref tA_orders, .ref tA_has, .int (nI t_tests), .ref tA_salt, .ref tA_crumbs, .long t_traced, .int t_hasSkin, .int t_hasBend])), (tA_is, .inl (g.2.1 0, 18, .inl t_is_30)), (tA_doings, .inl (g.2.1 0, 2, .inl t_doings)), (tA_doing, .inl (g.2.1 0, 72, .inl t_doing)), (tA_row, .inl (g.2.1 0, 80, .inl t_row_31))] H := hP
          have hD : va_D A [(tA, .inr (5, [.int (nI t_length), .ref tA_text, .int (nI t_at), .int (nI t_begin), .int t_told, .ref tA_is, .ref tA_doings, .ref tA_doing, .int t_items, .ref tA_row, .ref tA_isKept, .int t_when_26, .int t_most_27, .int t_mostAt_28, .int t_hiss_29, .ref tA_best, .ref tA_heats, .ref tA_orders, .ref tA_has, .int (nI t_tests), .ref tA_salt, .ref tA_crumbs, .long t_traced, .int t_hasSkin, .int t_hasBend])), (tA_is, .inl (g.2.1 0, 18, .inl t_is_30)), (tA_doings, .inl (g.2.1 0, 2, .inl t_doings)), (tA_doing, .inl (g.2.1 0, 72, .inl t_doing)), (tA_row, .inl (g.2.1 0, 80, .inl t_row_31))] := hD
          have E := x_nm_eq E hw_33
          refine x_eqi (en_65_0.1) ?_
          have hz := en_65_0.2
          refine lv_istore (lv' := [(6, .int (nI ((z_32).toNatClampNeg))), (0, .ref tA), (1, .int (nI j_7)), (2, .int (nI j_8)), (3, .int (nI j_9)), (4, .int (nI j_16)), (5, .int (nI l5_17))]) hx hb dX5_why_68 hl (by decide) rfl (fun ls hl => ?_)
          refine lv_iload hx hb dX5_why_70 (lv_at hl 0 rfl) ?_
          refine lv_istore (lv' := [(7, .int (nI ((z_32).toNatClampNeg))), (6, .int (nI ((z_32).toNatClampNeg))), (0, .ref tA), (1, .int (nI j_7)), (2, .int (nI j_8)), (3, .int (nI j_9)), (4, .int (nI j_16)), (5, .int (nI l5_17))]) hx hb dX5_why_72 hl (by decide) rfl (fun ls hl => ?_)
          refine lv_iload hx hb dX5_why_74 (lv_at hl 7 rfl) ?_
          refine lv_istore (lv' := [(8, .int (nI l5_17)), (7, .int (nI ((z_32).toNatClampNeg))), (6, .int (nI ((z_32).toNatClampNeg))), (0, .ref tA), (1, .int (nI j_7)), (2, .int (nI j_8)), (3, .int (nI j_9)), (4, .int (nI j_16)), (5, .int (nI l5_17))]) hx hb dX5_why_76 hl (by decide) rfl (fun ls hl => ?_)
          obtain ⟨o_36, E_36, E⟩ := x_nm_ex E
          have J_36 : ∀ (l7_35 : Nat), o_36 = l7_35 → (0 < l7_35) → (l7_35 ≤ 45) → ∀ (H : Heap) (locs : List Loc) (ls : Array Slot), va_P g.1 vwCl [(tA, .inr (5, [.int (nI t_length), .ref tA_text, .int (nI t_at), .int (nI t_begin), .int t_told, .ref tA_is, .ref tA_doings, .ref tA_doing, .int t_items, .ref tA_row, .ref tA_isKept, .int t_when_26, .int t_most_27, .int t_mostAt_28, .int t_hiss_29, .ref tA_best, .ref tA_heats, .ref tA_orders, .ref tA_has, .int (nI t_tests), .ref tA_salt, .ref tA_crumbs, .long t_traced, .int t_hasSkin, .int t_hasBend])), (tA_is, .inl (g.2.1 0, 18, .inl t_is_30)), (tA_doings, .inl (g.2.1 0, 2, .inl t_doings)), (tA_doing, .inl (g.2.1 0, 72, .inl t_doing)), (tA_row, .inl (g.2.1 0, 80, .inl t_row_31))] H → va_D A [(tA, .inr (5, [.int (nI t_length), .ref tA_text, .int (nI t_at), .int (nI t_begin), .int t_told, .ref tA_is, .ref tA_doings, .ref tA_doing, .int t_items, .ref tA_row, .ref tA_isKept, .int t_when_26, .int t_most_27, .int t_mostAt_28, .int t_hiss_29, .ref tA_best, .ref tA_heats, .ref tA_orders, .ref tA_has, .int (nI t_tests), .ref tA_salt, .ref tA_crumbs, .long t_traced, .int t_hasSkin, .int t_hasBend])), (tA_is, .inl (g.2.1 0, 18, .inl t_is_30)), (tA_doings, .inl (g.2.1 0, 2, .inl t_doings)), (tA_doing, .inl (g.2.1 0, 72, .inl t_doing)), (tA_row, .inl (g.2.1 0, 80, .inl t_row_31))] → va_S A s.heap H locs → lv_has ls 10 [(4, .int (nI j_16)), (5, .int (nI l5_17)), (6, .int (nI ((z_32).toNatClampNeg))), (7, .int (nI l7_35))] → W p l e rX5_why s m args below meth c H locs 0 0 Q (F0 m 101 ls []) := by
            intro l7_35 hE f_36_0 f_36_1 H locs ls hP hD hS hl
            try rw [hE] at E
            refine lv_iload hx hb dX5_why_101 (lv_at hl 0 rfl) ?_
            obtain ⟨o_38, E_38, E⟩ := x_nm_ex E
            have J_38 : ∀ (v_37 : Int32), o_38 = v_37 → ∀ (H : Heap) (locs : List Loc) (ls : Array Slot), va_P g.1 vwCl [(tA, .inr (5, [.int (nI t_length), .ref tA_text, .int (nI t_at), .int (nI t_begin), .int t_told, .ref tA_is, .ref tA_doings, .ref tA_doing, .int t_items, .ref tA_row, .ref tA_isKept, .int t_when_26, .int t_most_27, .int t_mostAt_28, .int t_hiss_29, .ref tA_best, .ref tA_heats, .ref tA_orders, .ref tA_has, .int (nI t_tests), .ref tA_salt, .ref tA_crumbs, .long t_traced, .int t_hasSkin, .int t_hasBend])), (tA_is, .inl (g.2.1 0, 18, .inl t_is_30)), (tA_doings, .inl (g.2.1 0, 2, .inl t_doings)), (tA_doing, .inl (g.2.1 0, 72, .inl t_doing)), (tA_row, .inl (g.2.1 0, 80, .inl t_row_31))] H → va_D A [(tA, .inr (5, [.int (nI t_length), .ref tA_text, .int (nI t_at), .int (nI t_begin), .int t_told, .ref tA_is, .ref tA_doings, .ref tA_doing, .int t_items, .ref tA_row, .ref tA_isKept, .int t_when_26, .int t_most_27, .int t_mostAt_28, .int t_hiss_29, .ref tA_best, .ref tA_heats, .ref tA_orders, .ref tA_has, .int (nI t_tests), .ref tA_salt, .ref tA_crumbs, .long t_traced, .int t_hasSkin, .int t_hasBend])), (tA_is, .inl (g.2.1 0, 18, .inl t_is_30)), (tA_doings, .inl (g.2.1 0, 2, .inl t_doings)), (tA_doing, .inl (g.2.1 0, 72, .inl t_doing)), (tA_row, .inl (g.2.1 0, 80, .inl t_row_31))] → va_S A s.heap H locs → lv_has ls 10 [] → W p l e rX5_why s m args below meth c H locs 0 0 Q (F0 m 119 ls [.int v_37]) := by
              intro v_37 hE  H locs ls hP hD hS hl
              try rw [hE] at E
              exact RET v_37 (t_when_26, t_most_27, t_mostAt_28, t_hiss_29, t_is_30, t_row_31) H locs _ _ (E.symm.trans hO) rfl hP hD hS dX5_why_119
            have E := E_38
            refine x_if_ne (a := j_16) (tgt := 114) hx hb (by omega) dX5_why_103 (by decide) (fun c_39 => ?_) (fun c_39 => ?_)
            · have E := x_neg E c_39
              refine lv_iload hx hb dX5_why_114 (lv_at hl 1 rfl) ?_
              refine lv_iload hx hb dX5_why_116 (lv_at hl 3 rfl) ?_
              refine lv_idiv hx hb dX5_why_118 (nI_ne0 (n := l7_35) (by omega) (by omega)) ?_
              refine x_eqi (pk_div (a := l5_17) (d := l7_35) (by omega) (by omega) (by omega)) ?_
              exact J_38 (nI (l5_17 / l7_35)) E  H locs ls hP hD hS (lv_sub hl [] rfl)
            · have E := x_pos E c_39
              refine lv_iload hx hb dX5_why_106 (lv_at hl 2 rfl) ?_
              refine lv_iload hx hb dX5_why_108 (lv_at hl 3 rfl) ?_
              refine lv_idiv hx hb dX5_why_110 (nI_ne0 (n := l7_35) (by omega) (by omega)) ?_
              refine x_eqi (pk_div (a := ((z_32).toNatClampNeg)) (d := l7_35) (by omega) (by omega) (by omega)) ?_
              refine lv_goto (tgt := 119) hx hb dX5_why_111 (by decide) ?_
              exact J_38 (nI (((z_32).toNatClampNeg) / l7_35)) E  H locs ls hP hD hS (lv_sub hl [] rfl)
          have E := E_36
          have L_42 : ∀ (n_42 : Nat) (k7_40 : Nat) (k8_41 : Nat), (k7_40 ≤ 45) → (k8_41 ≤ 45) → (0 < k7_40 + k8_41) → ((k8_41) < n_42) → o_36 = F_X5_why_L78 n_42 k7_40 k8_41 → ∀ (H : Heap) (locs : List Loc) (ls : Array Slot), va_P g.1 vwCl [(tA, .inr (5, [.int (nI t_length), .ref tA_text, .int (nI t_at), .int (nI t_begin), .int t_told, .ref tA_is, .ref tA_doings, .ref tA_doing, .int t_items, .ref tA_row, .ref tA_isKept, .int t_when_26, .int t_most_27, .int t_mostAt_28, .int t_hiss_29, .ref tA_best, .ref tA_heats, .ref tA_orders, .ref tA_has, .int (nI t_tests), .ref tA_salt, .ref tA_crumbs, .long t_traced, .int t_hasSkin, .int t_hasBend])), (tA_is, .inl (g.2.1 0, 18, .inl t_is_30)), (tA_doings, .inl (g.2.1 0, 2, .inl t_doings)), (tA_doing, .inl (g.2.1 0, 72, .inl t_doing)), (tA_row, .inl (g.2.1 0, 80, .inl t_row_31))] H → va_D A [(tA, .inr (5, [.int (nI t_length), .ref tA_text, .int (nI t_at), .int (nI t_begin), .int t_told, .ref tA_is, .ref tA_doings, .ref tA_doing, .int t_items, .ref tA_row, .ref tA_isKept, .int t_when_26, .int t_most_27, .int t_mostAt_28, .int t_hiss_29, .ref tA_best, .ref tA_heats, .ref tA_orders, .ref tA_has, .int (nI t_tests), .ref tA_salt, .ref tA_crumbs, .long t_traced, .int t_hasSkin, .int t_hasBend])), (tA_is, .inl (g.2.1 0, 18, .inl t_is_30)), (tA_doings, .inl (g.2.1 0, 2, .inl t_doings)), (tA_doing, .inl (g.2.1 0, 72, .inl t_doing)), (tA_row, .inl (g.2.1 0, 80, .inl t_row_31))] → va_S A s.heap H locs → lv_has ls 10 [(4, .int (nI j_16)), (5, .int (nI l5_17)), (6, .int (nI ((z_32).toNatClampNeg))), (7, .int (nI k7_40)), (8, .int (nI k8_41))] → W p l e rX5_why s m args below meth c H locs 0 0 Q (F0 m 78 ls []) := by
            intro n_42
            induction n_42 with
            | zero => intro k7_40 k8_41 i_42_0 i_42_1 i_42_2 i_42_3; exact absurd i_42_3 (by omega)
            | succ n_42 ih_42 =>
              intro k7_40 k8_41 i_42_0 i_42_1 i_42_2 i_42_3 E H locs ls hP hD hS hl
              rw [F_X5_why_L78.eq_2] at E
              refine lv_iload hx hb dX5_why_78 (lv_at hl 4 rfl) ?_
              refine x_if_eq (a := k8_41) (tgt := 101) hx hb (by omega) dX5_why_80 (by decide) (fun c_43 => ?_) (fun c_43 => ?_)
              · have E := x_pos E c_43
                exact J_36 k7_40 E (by first | omega | assumption | rfl | exact Or.inl rfl | exact Or.inr (by omega)) (by first | omega | assumption | rfl | exact Or.inl rfl | exact Or.inr (by omega)) H locs ls hP hD hS (lv_sub hl [0, 1, 2, 3] rfl)
              · have E := x_neg E c_43
                refine lv_iload hx hb dX5_why_83 (lv_at hl 3 rfl) ?_
                refine lv_iload hx hb dX5_why_85 (lv_at hl 4 rfl) ?_
                have hm := Nat.mod_lt k7_40 (show k8_41 > 0 by omega)
                refine lv_irem hx hb dX5_why_87 (nI_ne0 (n := k8_41) (by omega) (by omega)) ?_
                refine x_eqi (pk_rem (a := k7_40) (d := k8_41) (by omega) (by omega) (by omega)) ?_
                refine lv_istore (lv' := [(9, .int (nI (k7_40 % k8_41))), (4, .int (nI j_16)), (5, .int (nI l5_17)), (6, .int (nI ((z_32).toNatClampNeg))), (7, .int (nI k7_40)), (8, .int (nI k8_41))]) hx hb dX5_why_88 hl (by decide) rfl (fun ls hl => ?_)
                refine lv_iload hx hb dX5_why_90 (lv_at hl 5 rfl) ?_
                refine lv_istore (lv' := [(7, .int (nI k8_41)), (9, .int (nI (k7_40 % k8_41))), (4, .int (nI j_16)), (5, .int (nI l5_17)), (6, .int (nI ((z_32).toNatClampNeg))), (8, .int (nI k8_41))]) hx hb dX5_why_92 hl (by decide) rfl (fun ls hl => ?_)
                refine lv_iload hx hb dX5_why_94 (lv_at hl 1 rfl) ?_
                refine lv_istore (lv' := [(8, .int (nI (k7_40 % k8_41))), (7, .int (nI k8_41)), (9, .int (nI (k7_40 % k8_41))), (4, .int (nI j_16)), (5, .int (nI l5_17)), (6, .int (nI ((z_32).toNatClampNeg)))]) hx hb dX5_why_96 hl (by decide) rfl (fun ls hl => ?_)
                refine lv_goto (tgt := 78) hx hb dX5_why_98 (by decide) ?_
                exact ih_42 k8_41 (k7_40 % k8_41) (by first | omega | assumption | exact Eq.trans (by assumption) (by assumption)) (by first | omega | assumption | exact Eq.trans (by assumption) (by assumption)) (by first | omega | assumption | exact Eq.trans (by assumption) (by assumption)) (by omega) E H locs ls hP hD hS (lv_sub hl [3, 4, 5, 1, 0] rfl)
          exact L_42 46 ((z_32).toNatClampNeg) l5_17 (by first | omega | assumption | rfl) (by first | omega | assumption | rfl) (by first | omega | assumption | rfl) (by omega) E H locs ls hP hD hS (lv_sub hl [7, 8, 2, 1, 0] rfl)
        · have E := x_pos E c_25
          refine lv_bipush (v := (-2)) hx hb dX5_why_58 (by decide) ?_
          exact RET (-2) (t_when_18, t_most_19, t_mostAt_20, t_hiss_21, t_is_22, t_row_23) H locs _ _ (E.symm.trans hO) rfl hP hD hS dX5_why_60
      have E := E_24
      have L_52 : ∀ (n_52 : Nat) (k5_44 : Nat) (k6_45 : Nat) (t_when_46 : Int32) (t_most_47 : Int32) (t_mostAt_48 : Int32) (t_hiss_49 : Int32) (t_is_50 : Nat → Int32) (t_row_51 : Nat → Int32), (k6_45 ≤ 5) → (k5_44 ≤ 9 * k6_45) → (t_is_50 0 = t_is 0) → ((5 - k6_45) < n_52) → o_24 = F_X5_why_L28 t_doings t_doing j_7 j_8 n_52 k5_44 k6_45 t_when_46 t_most_47 t_mostAt_48 t_hiss_49 t_is_50 t_row_51 → ∀ (H : Heap) (locs : List Loc) (ls : Array Slot), va_P g.1 vwCl [(tA, .inr (5, [.int (nI t_length), .ref tA_text, .int (nI t_at), .int (nI t_begin), .int t_told, .ref tA_is, .ref tA_doings, .ref tA_doing, .int t_items, .ref tA_row, .ref tA_isKept, .int t_when_46, .int t_most_47, .int t_mostAt_48, .int t_hiss_49, .ref tA_best, .ref tA_heats, .ref tA_orders, .ref tA_has, .int (nI t_tests), .ref tA_salt, .ref tA_crumbs, .long t_traced, .int t_hasSkin, .int t_hasBend])), (tA_is, .inl (g.2.1 0, 18, .inl t_is_50)), (tA_doings, .inl (g.2.1 0, 2, .inl t_doings)), (tA_doing, .inl (g.2.1 0, 72, .inl t_doing)), (tA_row, .inl (g.2.1 0, 80, .inl t_row_51))] H → va_D A [(tA, .inr (5, [.int (nI t_length), .ref tA_text, .int (nI t_at), .int (nI t_begin), .int t_told, .ref tA_is, .ref tA_doings, .ref tA_doing, .int t_items, .ref tA_row, .ref tA_isKept, .int t_when_46, .int t_most_47, .int t_mostAt_48, .int t_hiss_49, .ref tA_best, .ref tA_heats, .ref tA_orders, .ref tA_has, .int (nI t_tests), .ref tA_salt, .ref tA_crumbs, .long t_traced, .int t_hasSkin, .int t_hasBend])), (tA_is, .inl (g.2.1 0, 18, .inl t_is_50)), (tA_doings, .inl (g.2.1 0, 2, .inl t_doings)), (tA_doing, .inl (g.2.1 0, 72, .inl t_doing)), (tA_row, .inl (g.2.1 0, 80, .inl t_row_51))] → va_S A s.heap H locs → lv_has ls 10 [(0, .ref tA), (1, .int (nI j_7)), (2, .int (nI j_8)), (3, .int (nI j_9)), (4, .int (nI j_16)), (5, .int (nI k5_44)), (6, .int (nI k6_45))] → W p l e rX5_why s m args below meth c H locs 0 0 Q (F0 m 28 ls []) := by
        intro n_52
        induction n_52 with
        | zero => intro k5_44 k6_45 t_when_46 t_most_47 t_mostAt_48 t_hiss_49 t_is_50 t_row_51 i_52_0 i_52_1 i_52_2 i_52_3; exact absurd i_52_3 (by omega)
        | succ n_52 ih_52 =>
          intro k5_44 k6_45 t_when_46 t_most_47 t_mostAt_48 t_hiss_49 t_is_50 t_row_51 i_52_0 i_52_1 i_52_2 i_52_3 E H locs ls hP hD hS hl
          rw [F_X5_why_L28.eq_2] at E
          refine lv_iload hx hb dX5_why_28 (lv_at hl 6 rfl) ?_
          refine lv_iconst (v := 5) hx hb dX5_why_30 (by decide) ?_
          refine x_icmp_ge (a := k6_45) (b := 5) (tgt := 53) hx hb (by omega) (by omega) dX5_why_31 (by decide) (fun c_53 => ?_) (fun c_53 => ?_)
          · have E := x_pos E c_53
            exact J_24 k5_44 t_when_46 t_most_47 t_mostAt_48 t_hiss_49 t_is_50 t_row_51 E (by first | omega | assumption | rfl | exact Or.inl rfl | exact Or.inr (by omega)) (by first | omega | assumption | rfl | exact Or.inl rfl | exact Or.inr (by omega)) H locs ls hP hD hS (lv_sub hl [0, 1, 2, 3, 4, 5] rfl)
          · have E := x_neg E c_53
            refine lv_iload hx hb dX5_why_34 (lv_at hl 5 rfl) ?_
            refine lv_aload_n hx hb dX5_why_36 rfl (lv_at hl 0 rfl) ?_
            refine lv_iload_n hx hb dX5_why_37 rfl (lv_at hl 1 rfl) ?_
            refine lv_iload_n hx hb dX5_why_38 rfl (lv_at hl 2 rfl) ?_
            refine lv_iload hx hb dX5_why_39 (lv_at hl 6 rfl) ?_
            refine x_callVi (w2 := fun u => [(tA, .inr (5, [.int (nI t_length), .ref tA_text, .int (nI t_at), .int (nI t_begin), .int t_told, .ref tA_is, .ref tA_doings, .ref tA_doing, .int t_items, .ref tA_row, .ref tA_isKept, .int u.1, .int u.2.1, .int u.2.2.1, .int u.2.2.2.1, .ref tA_best, .ref tA_heats, .ref tA_orders, .ref tA_has, .int (nI t_tests), .ref tA_salt, .ref tA_crumbs, .long t_traced, .int t_hasSkin, .int t_hasBend])), (tA_is, .inl (g.2.1 0, 18, .inl u.2.2.2.2.1)), (tA_doings, .inl (g.2.1 0, 2, .inl t_doings)), (tA_doing, .inl (g.2.1 0, 72, .inl t_doing)), (tA_row, .inl (g.2.1 0, 80, .inl u.2.2.2.2.2))]) (wr := []) [0, 1, 2, 3, 4] [] [0, 1, 2, 3, 4] 0 5 ⟨hx, hb, hml, hown, hts⟩ hK hX hP hD hS hA (m_X5_begun l g tA tA_is tA_doings tA_doing tA_row tA_text tA_isKept tA_best tA_heats tA_orders tA_has tA_salt tA_crumbs t_length t_at t_begin t_told t_items t_when_46 t_most_47 t_mostAt_48 t_hiss_49 t_tests t_traced t_hasSkin t_hasBend t_is_50 t_doings t_doing t_row_51 (nI j_7) (nI j_8) (nI k6_45) (by first | assumption | omega | exact x_e8 (by assumption) (by assumption)) (by first | assumption | omega | exact x_e8 (by assumption) (by assumption)) (by first | assumption | omega | exact x_e8 (by assumption) (by assumption)) (by first | assumption | omega | exact x_e8 (by assumption) (by assumption))) (cwV 3 hts (x_gV kw_730 kw_731 kw_732 kw_5 kw_733) rfl rfl rfl vX5_begun ⟨Nat.le_of_ble_eq_true rfl, Nat.le_of_ble_eq_true rfl⟩) rfl rfl rfl rfl rfl rfl rfl (by decide) (fun _ => rfl) rfl rfl hl.1 rfl (Nat.le_of_ble_eq_true rfl) dX5_why_41 ⟨Nat.zero_le _, Nat.zero_le _⟩ (fun z_60 u H locs hw_61 hP hD hS => ?_)
            obtain ⟨t_when_54, t_most_55, t_mostAt_56, t_hiss_57, t_is_58, t_row_59⟩ := u
            obtain ⟨hw_61, en_41_0, en_41_1⟩ := hw_61
            have en_41_0 : z_60 = nI (z_60).toNatClampNeg ∧ (z_60).toNatClampNeg ≤ 9 := en_41_0
            have en_41_1 : t_is_58 0 = t_is_50 0 := en_41_1
            have hP : va_P g.1 vwCl [(tA, .inr (5, [.int (nI t_length), .ref tA_text, .int (nI t_at), .int (nI t_begin), .int t_told, .ref tA_is, .ref tA_doings, .ref tA_doing, .int t_items, .ref tA_row, .ref tA_isKept, .int t_when_54, .int t_most_55, .int t_mostAt_56, .int t_hiss_57, .ref tA_best, .ref tA_heats, .ref tA_orders, .ref tA_has, .int (nI t_tests), .ref tA_salt, .ref tA_crumbs, .long t_traced, .int t_hasSkin, .int t_hasBend])), (tA_is, .inl (g.2.1 0, 18, .inl t_is_58)), (tA_doings, .inl (g.2.1 0, 2, .inl t_doings)), (tA_doing, .inl (g.2.1 0, 72, .inl t_doing)), (tA_row, .inl (g.2.1 0, 80, .inl t_row_59))] H := hP
            have hD : va_D A [(tA, .inr (5, [.int (nI t_length), .ref tA_text, .int (nI t_at), .int (nI t_begin), .int t_told, .ref tA_is, .ref tA_doings, .ref tA_doing, .int t_items, .ref tA_row, .ref tA_isKept, .int t_when_54, .int t_most_55, .int t_mostAt_56, .int t_hiss_57, .ref tA_best, .ref tA_heats, .ref tA_orders, .ref tA_has, .int (nI t_tests), .ref tA_salt, .ref tA_crumbs, .long t_traced, .int t_hasSkin, .int t_hasBend])), (tA_is, .inl (g.2.1 0, 18, .inl t_is_58)), (tA_doings, .inl (g.2.1 0, 2, .inl t_doings)), (tA_doing, .inl (g.2.1 0, 72, .inl t_doing)), (tA_row, .inl (g.2.1 0, 80, .inl t_row_59))] := hD
            have E := x_nm_eq E hw_61
            refine x_eqi (en_41_0.1) ?_
            have hz := en_41_0.2
            refine lv_iadd hx hb dX5_why_44 ?_
            refine x_eqi (nI_add k5_44 ((z_60).toNatClampNeg)) ?_
            refine lv_istore (lv' := [(5, .int (nI (k5_44 + ((z_60).toNatClampNeg)))), (0, .ref tA), (1, .int (nI j_7)), (2, .int (nI j_8)), (3, .int (nI j_9)), (4, .int (nI j_16)), (6, .int (nI k6_45))]) hx hb dX5_why_45 hl (by decide) rfl (fun ls hl => ?_)
            refine lv_iinc (v := nI (k6_45 + 1)) (lv' := [(6, .int (nI (k6_45 + 1))), (5, .int (nI (k5_44 + ((z_60).toNatClampNeg)))), (0, .ref tA), (1, .int (nI j_7)), (2, .int (nI j_8)), (3, .int (nI j_9)), (4, .int (nI j_16))]) hx hb dX5_why_47 hl (k := 6) rfl (nI_1 k6_45) (by decide) rfl (fun ls hl => ?_)
            refine lv_goto (tgt := 28) hx hb dX5_why_50 (by decide) ?_
            exact ih_52 (k5_44 + ((z_60).toNatClampNeg)) (k6_45 + 1) t_when_54 t_most_55 t_mostAt_56 t_hiss_57 t_is_58 t_row_59 (by first | omega | assumption | exact Eq.trans (by assumption) (by assumption)) (by first | omega | assumption | exact Eq.trans (by assumption) (by assumption)) (by first | omega | assumption | exact Eq.trans (by assumption) (by assumption)) (by omega) E H locs ls hP hD hS (lv_sub hl [2, 3, 4, 5, 6, 1, 0] rfl)
      exact L_52 (5 + 1) 0 0 t_when t_most t_mostAt t_hiss t_is t_row (by first | omega | assumption | rfl) (by first | omega | assumption | rfl) (by first | omega | assumption | rfl) (by omega) E H locs ls hP hD hS (lv_sub hl [2, 3, 4, 5, 6, 1, 0] rfl)
    · have E := x_pos E c_14
      refine lv_iconst (v := (-1)) hx hb dX5_why_20 (by decide) ?_
      exact RET (-1) (t_when, t_most, t_mostAt, t_hiss, t_is, t_row) H locs _ _ (E.symm.trans hO) rfl hP hD hS dX5_why_21
abbrev rX5_isDry : Room := { frames := 1, cells := 0, slots := 0, locals := 25 }
theorem vX5_isDryS : yX5_isDry.cls ≠ "java/lang/invoke/MethodHandle" ∧ yX5_isDry.cls ≠ "java/lang/invoke/VarHandle" ∧ (parseMethodDescriptor yX5_isDry.desc).map (fun d => d.parameters.length) = some 3 := by decide +kernel
abbrev wX5_isDry : List Cond := Cond.code yX5_isDry cX5_isDry 3 (some .boolean) :: wsL_law
def F_X5_isDry (a1 : Int32) (a2 : Int32) (a3 : Int32) : Int32 :=
  x_nm (F_X5_in a1.toInt64 1 9999) fun z_1 => x_nm (α := Int32) (if z_1 = 0 then 0 else x_nm (a1.toNatClampNeg) fun j_9 => x_nm (F_X5_in a2.toInt64 0 ((nI j_9).toInt64)) fun z_10 => if z_10 = 0 then 0 else x_nm (a2.toNatClampNeg) fun j_16 => x_nm (F_X5_in a3.toInt64 0 9) fun z_17 => if z_17 = 0 then 0 else x_nm (a3.toNatClampNeg) fun j_23 => 1) fun u_6 => u_6
set_option maxHeartbeats 4000000 in
set_option maxRecDepth 100000 in
theorem m_X5_isDry (l : Launch) (g : x_G) (a1 : Int32) (a2 : Int32) (a3 : Int32) : x_MetI l yX5_isDry wX5_isDry rX5_isDry g [.int a1, .int a2, .int a3] [] (fun (r : Int32) (u : Unit) => (r = F_X5_isDry a1 a2 a3) ∧ (r = 0 ∨ r = 1)) (fun _ => []) := by
  refine x_startI (cc := cX5_isDry) (maxL := 3) (by decide) rfl (Nat.le_of_ble_eq_true rfl) ?_
  intro p e s m args below meth c Q A ls H locs hx hb hml hown hts hK hX hP hD hS hA hl RET
  have hown : s.vm.findClass RX5 = some m.cls := hown
  have hl : lv_has ls 3 [(0, .int a1), (1, .int a2), (2, .int a3)] := hl
  obtain ⟨o_0, hO⟩ : ∃ z, z = F_X5_isDry a1 a2 a3 := ⟨_, rfl⟩
  have E := hO
  rw [F_X5_isDry.eq_1] at E
  refine lv_iload_n hx hb dX5_isDry_0 rfl (lv_at hl 0 rfl) ?_
  refine lv_i2l (v := a1.toInt64) hx hb dX5_isDry_1 rfl ?_
  refine lv_lconst (v := 1) hx hb dX5_isDry_2 (by decide) ?_
  refine lv_ldc2 (v := 9999) hx hb hown (hts _ kw_769) dX5_isDry_3 ?_
  refine x_callS0 ⟨hx, hb, hml, hown, hts⟩ hK hX hP hD hS hA (m_X5_in l g a1.toInt64 1 9999) (va_cwS 3 hts (x_gS kw_129 kw_130 kw_5 kw_131) rfl rfl rfl vX5_inS ⟨Nat.le_of_ble_eq_true rfl, Nat.le_of_ble_eq_true rfl⟩) rfl hl.1 rfl (Nat.le_of_ble_eq_true rfl) dX5_isDry_6 ⟨Nat.zero_le _, Nat.zero_le _⟩ (fun z_1 _ H locs hw_2 hP hD hS => ?_)
  obtain ⟨hw_2, b_3⟩ := hw_2
  have E := x_nm_eq E hw_2
  obtain ⟨o_6, E_6, E⟩ := x_nm_ex E
  have J_6 : ∀ (v_5 : Int32), o_6 = v_5 → (v_5 = 0 ∨ v_5 = 1) → ∀ (H : Heap) (locs : List Loc) (ls : Array Slot), va_P g.1 vwCl [] H → va_D A [] → va_S A s.heap H locs → lv_has ls 3 [] → W p l e rX5_isDry s m args below meth c H locs 0 0 Q (F0 m 40 ls [.int v_5]) := by
    intro v_5 hE f_6_0 H locs ls hP hD hS hl
    try rw [hE] at E
    exact RET v_5 () H locs _ _ (⟨E.symm.trans hO, (by assumption)⟩) (x_nar (by assumption)) hP hD hS dX5_isDry_40
  have E := E_6
  refine lv_if_eq (tgt := 39) hx hb dX5_isDry_9 (by decide) (fun c_7 => ?_) (fun c_7 => ?_)
  · have E := x_pos E c_7
    refine lv_iconst (v := 0) hx hb dX5_isDry_39 (by decide) ?_
    exact J_6 0 E (Or.inl rfl) H locs ls hP hD hS (lv_sub hl [] rfl)
  · have E := x_neg E c_7
    obtain ⟨j_9, hj⟩ : ∃ z, z = (a1).toNatClampNeg := ⟨_, rfl⟩
    have r_8_0 := (x_ins (lo := 1) (hi := 9999) (by omega) (by omega) (fun q => c_7 (hw_2.trans q)))
    rw [← hj] at r_8_0
    obtain ⟨r_8_0_a, r_8_0_b, e_8_0⟩ := r_8_0
    have E := x_nm_eq E hj
    have hl : lv_has ls 3 [(0, .int (nI j_9)), (1, .int a2), (2, .int a3)] := by rw [e_8_0] at hl; exact hl
    refine lv_iload_n hx hb dX5_isDry_12 rfl (lv_at hl 1 rfl) ?_
    refine lv_i2l (v := a2.toInt64) hx hb dX5_isDry_13 rfl ?_
    refine lv_lconst (v := 0) hx hb dX5_isDry_14 (by decide) ?_
    refine lv_iload_n hx hb dX5_isDry_15 rfl (lv_at hl 0 rfl) ?_
    refine lv_i2l (v := (nI j_9).toInt64) hx hb dX5_isDry_16 rfl ?_
    refine x_callS0 ⟨hx, hb, hml, hown, hts⟩ hK hX hP hD hS hA (m_X5_in l g a2.toInt64 0 ((nI j_9).toInt64)) (va_cwS 3 hts (x_gS kw_129 kw_130 kw_5 kw_131) rfl rfl rfl vX5_inS ⟨Nat.le_of_ble_eq_true rfl, Nat.le_of_ble_eq_true rfl⟩) rfl hl.1 rfl (Nat.le_of_ble_eq_true rfl) dX5_isDry_17 ⟨Nat.zero_le _, Nat.zero_le _⟩ (fun z_10 _ H locs hw_11 hP hD hS => ?_)
    obtain ⟨hw_11, b_12⟩ := hw_11
    have E := x_nm_eq E hw_11
    refine lv_if_eq (tgt := 39) hx hb dX5_isDry_20 (by decide) (fun c_14 => ?_) (fun c_14 => ?_)
    · have E := x_pos E c_14
      refine lv_iconst (v := 0) hx hb dX5_isDry_39 (by decide) ?_
      exact J_6 0 E (Or.inl rfl) H locs ls hP hD hS (lv_sub hl [] rfl)
    · have E := x_neg E c_14
      obtain ⟨j_16, hj⟩ : ∃ z, z = (a2).toNatClampNeg := ⟨_, rfl⟩
      have r_15_0 := (x_ins (lo := 0) (hi := j_9) (by omega) (by omega) (fun q => c_14 (hw_11.trans q)))
      rw [← hj] at r_15_0
      obtain ⟨r_15_0_a, r_15_0_b, e_15_0⟩ := r_15_0
      have E := x_nm_eq E hj
      have hl : lv_has ls 3 [(0, .int (nI j_9)), (1, .int (nI j_16)), (2, .int a3)] := by rw [e_15_0] at hl; exact hl
      refine lv_iload_n hx hb dX5_isDry_23 rfl (lv_at hl 2 rfl) ?_
      refine lv_i2l (v := a3.toInt64) hx hb dX5_isDry_24 rfl ?_
      refine lv_lconst (v := 0) hx hb dX5_isDry_25 (by decide) ?_
      refine lv_ldc2 (v := 9) hx hb hown (hts _ kw_501) dX5_isDry_26 ?_
      refine x_callS0 ⟨hx, hb, hml, hown, hts⟩ hK hX hP hD hS hA (m_X5_in l g a3.toInt64 0 9) (va_cwS 3 hts (x_gS kw_129 kw_130 kw_5 kw_131) rfl rfl rfl vX5_inS ⟨Nat.le_of_ble_eq_true rfl, Nat.le_of_ble_eq_true rfl⟩) rfl hl.1 rfl (Nat.le_of_ble_eq_true rfl) dX5_isDry_29 ⟨Nat.zero_le _, Nat.zero_le _⟩ (fun z_17 _ H locs hw_18 hP hD hS => ?_)
      obtain ⟨hw_18, b_19⟩ := hw_18
      have E := x_nm_eq E hw_18
      refine lv_if_eq (tgt := 39) hx hb dX5_isDry_32 (by decide) (fun c_21 => ?_) (fun c_21 => ?_)
      · have E := x_pos E c_21
        refine lv_iconst (v := 0) hx hb dX5_isDry_39 (by decide) ?_
        exact J_6 0 E (Or.inl rfl) H locs ls hP hD hS (lv_sub hl [] rfl)
      · have E := x_neg E c_21
        obtain ⟨j_23, hj⟩ : ∃ z, z = (a3).toNatClampNeg := ⟨_, rfl⟩
        have r_22_0 := (x_ins (lo := 0) (hi := 9) (by omega) (by omega) (fun q => c_21 (hw_18.trans q)))
        rw [← hj] at r_22_0
        obtain ⟨r_22_0_a, r_22_0_b, e_22_0⟩ := r_22_0
        have E := x_nm_eq E hj
        have hl : lv_has ls 3 [(0, .int (nI j_9)), (1, .int (nI j_16)), (2, .int (nI j_23))] := by rw [e_22_0] at hl; exact hl
        refine lv_iconst (v := 1) hx hb dX5_isDry_35 (by decide) ?_
        refine lv_goto (tgt := 40) hx hb dX5_isDry_36 (by decide) ?_
        exact J_6 1 E (Or.inr rfl) H locs ls hP hD hS (lv_sub hl [] rfl)
theorem x_isDry {w d k : Int32} (h : ¬ F_X5_isDry w d k = 0) : (1 ≤ w.toNatClampNeg ∧ w.toNatClampNeg ≤ 9999 ∧ w = nI w.toNatClampNeg) ∧ (0 ≤ d.toNatClampNeg ∧ d.toNatClampNeg ≤ w.toNatClampNeg ∧ d = nI d.toNatClampNeg) ∧ (0 ≤ k.toNatClampNeg ∧ k.toNatClampNeg ≤ 9 ∧ k = nI k.toNatClampNeg) := by
  simp only [F_X5_isDry, x_nm] at h
  by_cases h1 : F_X5_in w.toInt64 1 9999 = 0
  · simp [h1] at h
  · have e := x_ins (lo := 1) (hi := 9999) (by omega) (by omega) h1
    by_cases h2 : F_X5_in d.toInt64 0 (nI w.toNatClampNeg).toInt64 = 0
    · simp [h1, h2] at h
    · by_cases h3 : F_X5_in k.toInt64 0 9 = 0
      · simp [h1, h2, h3] at h
      · exact ⟨e, x_ins (lo := 0) (hi := w.toNatClampNeg) (by omega) (by omega) h2, x_ins (lo := 0) (hi := 9) (by omega) (by omega) h3⟩
abbrev rX5_dried : Room := { frames := 2, cells := 0, slots := 0, locals := 47 }
theorem vX5_dried : yX5_dried.cls = RX5 ∧ yX5_dried.cls ≠ "java/lang/invoke/MethodHandle" ∧ yX5_dried.cls ≠ "java/lang/invoke/VarHandle" ∧ (parseMethodDescriptor yX5_dried.desc).map (fun d => d.parameters.length) = some 4 := by decide +kernel
abbrev wX5_dried : List Cond := Cond.code yX5_dried cX5_dried 9 (some .int) :: wsL_law
def F_X5_dried_L33 (j_7 : Nat) (j_8 : Nat) (j_9 : Nat) (j_16 : Nat) : Nat → Int32 → Nat → Nat → Int32
  | 0, l5_19, k6_20, k7_21 => l5_19
  | n_22 + 1, l5_19, k6_20, k7_21 => if j_16 ≤ k7_21 then l5_19 else x_nm (α := Nat) (if ((l5_19 - (nI j_8)) / (nI (10 + k6_20))) ≤ (nI (j_7 / 50)) then 0 else j_9) fun u_25 => F_X5_dried_L33 j_7 j_8 j_9 j_16 n_22 (l5_19 - ((l5_19 - (nI j_8)) / (nI (10 + k6_20)))) (k6_20 + u_25) (k7_21 + 1)
def F_X5_dried (a1 : Int32) (a2 : Int32) (a3 : Int32) (a4 : Int32) : Int32 :=
  x_nm (F_X5_isDry a1 a2 a3) fun z_1 => if z_1 = 0 then (-1) else x_nm (a1.toNatClampNeg) fun j_7 => x_nm (a2.toNatClampNeg) fun j_8 => x_nm (a3.toNatClampNeg) fun j_9 => x_nm (F_X5_in a4.toInt64 0 200) fun z_10 => if z_10 = 0 then (-1) else x_nm (a4.toNatClampNeg) fun j_16 => x_nm (α := Int32) (F_X5_dried_L33 j_7 j_8 j_9 j_16 (j_16 + 1) (nI j_7) 0 0) fun u_18 => u_18
set_option maxHeartbeats 4000000 in
set_option maxRecDepth 100000 in
theorem m_X5_dried (l : Launch) (g : x_G) (tA tA_text tA_is tA_doings tA_doing tA_row tA_isKept tA_best tA_heats tA_orders tA_has tA_salt tA_crumbs : Nat) (t_length : Nat) (t_at : Nat) (t_begin : Nat) (t_told : Int32) (t_items : Int32) (t_when : Int32) (t_most : Int32) (t_mostAt : Int32) (t_hiss : Int32) (t_tests : Nat) (t_traced : Int64) (t_hasSkin : Int32) (t_hasBend : Int32) (a1 : Int32) (a2 : Int32) (a3 : Int32) (a4 : Int32) : x_MetI l yX5_dried wX5_dried rX5_dried g [.ref tA, .int a1, .int a2, .int a3, .int a4] [(tA, .inr (5, [.int (nI t_length), .ref tA_text, .int (nI t_at), .int (nI t_begin), .int t_told, .ref tA_is, .ref tA_doings, .ref tA_doing, .int t_items, .ref tA_row, .ref tA_isKept, .int t_when, .int t_most, .int t_mostAt, .int t_hiss, .ref tA_best, .ref tA_heats, .ref tA_orders, .ref tA_has, .int (nI t_tests), .ref tA_salt, .ref tA_crumbs, .long t_traced, .int t_hasSkin, .int t_hasBend]))] (fun (r : Int32) (u : Unit) => r = F_X5_dried a1 a2 a3 a4) (fun _ => [(tA, .inr (5, [.int (nI t_length), .ref tA_text, .int (nI t_at), .int (nI t_begin), .int t_told, .ref tA_is, .ref tA_doings, .ref tA_doing, .int t_items, .ref tA_row, .ref tA_isKept, .int t_when, .int t_most, .int t_mostAt, .int t_hiss, .ref tA_best, .ref tA_heats, .ref tA_orders, .ref tA_has, .int (nI t_tests), .ref tA_salt, .ref tA_crumbs, .long t_traced, .int t_hasSkin, .int t_hasBend]))]) := by
  refine x_startI (cc := cX5_dried) (maxL := 9) (by decide) rfl (Nat.le_of_ble_eq_true rfl) ?_
  intro p e s m args below meth c Q A ls H locs hx hb hml hown hts hK hX hP hD hS hA hl RET
  have hown : s.vm.findClass RX5 = some m.cls := hown
  have hl : lv_has ls 9 [(0, .ref tA), (1, .int a1), (2, .int a2), (3, .int a3), (4, .int a4)] := hl
  obtain ⟨o_0, hO⟩ : ∃ z, z = F_X5_dried a1 a2 a3 a4 := ⟨_, rfl⟩
  have E := hO
  rw [F_X5_dried.eq_1] at E
  refine lv_iload_n hx hb dX5_dried_0 rfl (lv_at hl 1 rfl) ?_
  refine lv_iload_n hx hb dX5_dried_1 rfl (lv_at hl 2 rfl) ?_
  refine lv_iload_n hx hb dX5_dried_2 rfl (lv_at hl 3 rfl) ?_
  refine x_callS0 ⟨hx, hb, hml, hown, hts⟩ hK hX hP hD hS hA (m_X5_isDry l g a1 a2 a3) (va_cwS 3 hts (x_gS kw_766 kw_767 kw_5 kw_768) rfl rfl rfl vX5_isDryS ⟨Nat.le_of_ble_eq_true rfl, Nat.le_of_ble_eq_true rfl⟩) rfl hl.1 rfl (Nat.le_of_ble_eq_true rfl) dX5_dried_3 ⟨Nat.zero_le _, Nat.zero_le _⟩ (fun z_1 _ H locs hw_2 hP hD hS => ?_)
  obtain ⟨hw_2, b_3⟩ := hw_2
  have E := x_nm_eq E hw_2
  refine lv_if_eq (tgt := 22) hx hb dX5_dried_6 (by decide) (fun c_5 => ?_) (fun c_5 => ?_)
  · have E := x_pos E c_5
    refine lv_iconst (v := (-1)) hx hb dX5_dried_22 (by decide) ?_
    exact RET (-1) () H locs _ _ (E.symm.trans hO) rfl hP hD hS dX5_dried_23
  · have E := x_neg E c_5
    have r_6 := x_isDry (fun q => c_5 (hw_2.trans q))
    obtain ⟨j_7, hj⟩ : ∃ z, z = (a1).toNatClampNeg := ⟨_, rfl⟩
    have r_6_0 := r_6.1
    rw [← hj] at r_6_0
    obtain ⟨r_6_0_a, r_6_0_b, e_6_0⟩ := r_6_0
    have E := x_nm_eq E hj
    have hl : lv_has ls 9 [(0, .ref tA), (1, .int (nI j_7)), (2, .int a2), (3, .int a3), (4, .int a4)] := by rw [e_6_0] at hl; exact hl
    obtain ⟨j_8, hj⟩ : ∃ z, z = (a2).toNatClampNeg := ⟨_, rfl⟩
    have r_6_1 := r_6.2.1
    rw [← hj] at r_6_1
    obtain ⟨r_6_1_a, r_6_1_b, e_6_1⟩ := r_6_1
    have E := x_nm_eq E hj
    have hl : lv_has ls 9 [(0, .ref tA), (1, .int (nI j_7)), (2, .int (nI j_8)), (3, .int a3), (4, .int a4)] := by rw [e_6_1] at hl; exact hl
    obtain ⟨j_9, hj⟩ : ∃ z, z = (a3).toNatClampNeg := ⟨_, rfl⟩
    have r_6_2 := r_6.2.2
    rw [← hj] at r_6_2
    obtain ⟨r_6_2_a, r_6_2_b, e_6_2⟩ := r_6_2
    have E := x_nm_eq E hj
    have hl : lv_has ls 9 [(0, .ref tA), (1, .int (nI j_7)), (2, .int (nI j_8)), (3, .int (nI j_9)), (4, .int a4)] := by rw [e_6_2] at hl; exact hl
    refine lv_iload hx hb dX5_dried_9 (lv_at hl 4 rfl) ?_
    refine lv_i2l (v := a4.toInt64) hx hb dX5_dried_11 rfl ?_
    refine lv_lconst (v := 0) hx hb dX5_dried_12 (by decide) ?_
    refine lv_ldc2 (v := 200) hx hb hown (hts _ kw_765) dX5_dried_13 ?_
    refine x_callS0 ⟨hx, hb, hml, hown, hts⟩ hK hX hP hD hS hA (m_X5_in l g a4.toInt64 0 200) (va_cwS 3 hts (x_gS kw_129 kw_130 kw_5 kw_131) rfl rfl rfl vX5_inS ⟨Nat.le_of_ble_eq_true rfl, Nat.le_of_ble_eq_true rfl⟩) rfl hl.1 rfl (Nat.le_of_ble_eq_true rfl) dX5_dried_16 ⟨Nat.zero_le _, Nat.zero_le _⟩ (fun z_10 _ H locs hw_11 hP hD hS => ?_)
    obtain ⟨hw_11, b_12⟩ := hw_11
    have E := x_nm_eq E hw_11
    refine x_if_neI (tgt := 24) hx hb dX5_dried_19 (by decide) (fun c_14 => ?_) (fun c_14 => ?_)
    · have E := x_neg E c_14
      obtain ⟨j_16, hj⟩ : ∃ z, z = (a4).toNatClampNeg := ⟨_, rfl⟩
      have r_15_0 := (x_ins (lo := 0) (hi := 200) (by omega) (by omega) (fun q => c_14 (hw_11.trans q)))
      rw [← hj] at r_15_0
      obtain ⟨r_15_0_a, r_15_0_b, e_15_0⟩ := r_15_0
      have E := x_nm_eq E hj
      have hl : lv_has ls 9 [(0, .ref tA), (1, .int (nI j_7)), (2, .int (nI j_8)), (3, .int (nI j_9)), (4, .int (nI j_16))] := by rw [e_15_0] at hl; exact hl
      refine lv_iload_n hx hb dX5_dried_24 rfl (lv_at hl 1 rfl) ?_
      refine lv_istore (lv' := [(5, .int (nI j_7)), (0, .ref tA), (1, .int (nI j_7)), (2, .int (nI j_8)), (3, .int (nI j_9)), (4, .int (nI j_16))]) hx hb dX5_dried_25 hl (by decide) rfl (fun ls hl => ?_)
      refine lv_iconst (v := 0) hx hb dX5_dried_27 (by decide) ?_
      refine lv_istore (lv' := [(6, .int 0), (5, .int (nI j_7)), (0, .ref tA), (1, .int (nI j_7)), (2, .int (nI j_8)), (3, .int (nI j_9)), (4, .int (nI j_16))]) hx hb dX5_dried_28 hl (by decide) rfl (fun ls hl => ?_)
      refine lv_iconst (v := 0) hx hb dX5_dried_30 (by decide) ?_
      refine lv_istore (lv' := [(7, .int 0), (6, .int 0), (5, .int (nI j_7)), (0, .ref tA), (1, .int (nI j_7)), (2, .int (nI j_8)), (3, .int (nI j_9)), (4, .int (nI j_16))]) hx hb dX5_dried_31 hl (by decide) rfl (fun ls hl => ?_)
      obtain ⟨o_18, E_18, E⟩ := x_nm_ex E
      have J_18 : ∀ (l5_17 : Int32), o_18 = l5_17 → ∀ (H : Heap) (locs : List Loc) (ls : Array Slot), va_P g.1 vwCl [(tA, .inr (5, [.int (nI t_length), .ref tA_text, .int (nI t_at), .int (nI t_begin), .int t_told, .ref tA_is, .ref tA_doings, .ref tA_doing, .int t_items, .ref tA_row, .ref tA_isKept, .int t_when, .int t_most, .int t_mostAt, .int t_hiss, .ref tA_best, .ref tA_heats, .ref tA_orders, .ref tA_has, .int (nI t_tests), .ref tA_salt, .ref tA_crumbs, .long t_traced, .int t_hasSkin, .int t_hasBend]))] H → va_D A [(tA, .inr (5, [.int (nI t_length), .ref tA_text, .int (nI t_at), .int (nI t_begin), .int t_told, .ref tA_is, .ref tA_doings, .ref tA_doing, .int t_items, .ref tA_row, .ref tA_isKept, .int t_when, .int t_most, .int t_mostAt, .int t_hiss, .ref tA_best, .ref tA_heats, .ref tA_orders, .ref tA_has, .int (nI t_tests), .ref tA_salt, .ref tA_crumbs, .long t_traced, .int t_hasSkin, .int t_hasBend]))] → va_S A s.heap H locs → lv_has ls 9 [(5, .int l5_17)] → W p l e rX5_dried s m args below meth c H locs 0 0 Q (F0 m 84 ls []) := by
        intro l5_17 hE  H locs ls hP hD hS hl
        try rw [hE] at E
        refine lv_iload hx hb dX5_dried_84 (lv_at hl 0 rfl) ?_
        exact RET l5_17 () H locs _ _ (E.symm.trans hO) rfl hP hD hS dX5_dried_86
      have E := E_18
      have L_22 : ∀ (n_22 : Nat) (l5_19 : Int32) (k6_20 : Nat) (k7_21 : Nat), (k7_21 ≤ j_16) → (k6_20 ≤ 9 * k7_21) → ((j_16 - k7_21) < n_22) → o_18 = F_X5_dried_L33 j_7 j_8 j_9 j_16 n_22 l5_19 k6_20 k7_21 → ∀ (H : Heap) (locs : List Loc) (ls : Array Slot), va_P g.1 vwCl [(tA, .inr (5, [.int (nI t_length), .ref tA_text, .int (nI t_at), .int (nI t_begin), .int t_told, .ref tA_is, .ref tA_doings, .ref tA_doing, .int t_items, .ref tA_row, .ref tA_isKept, .int t_when, .int t_most, .int t_mostAt, .int t_hiss, .ref tA_best, .ref tA_heats, .ref tA_orders, .ref tA_has, .int (nI t_tests), .ref tA_salt, .ref tA_crumbs, .long t_traced, .int t_hasSkin, .int t_hasBend]))] H → va_D A [(tA, .inr (5, [.int (nI t_length), .ref tA_text, .int (nI t_at), .int (nI t_begin), .int t_told, .ref tA_is, .ref tA_doings, .ref tA_doing, .int t_items, .ref tA_row, .ref tA_isKept, .int t_when, .int t_most, .int t_mostAt, .int t_hiss, .ref tA_best, .ref tA_heats, .ref tA_orders, .ref tA_has, .int (nI t_tests), .ref tA_salt, .ref tA_crumbs, .long t_traced, .int t_hasSkin, .int t_hasBend]))] → va_S A s.heap H locs → lv_has ls 9 [(1, .int (nI j_7)), (2, .int (nI j_8)), (3, .int (nI j_9)), (4, .int (nI j_16)), (5, .int l5_19), (6, .int (nI k6_20)), (7, .int (nI k7_21))] → W p l e rX5_dried s m args below meth c H locs 0 0 Q (F0 m 33 ls []) := by
        intro n_22
        induction n_22 with
        | zero => intro l5_19 k6_20 k7_21 i_22_0 i_22_1 i_22_2; exact absurd i_22_2 (by omega)
        | succ n_22 ih_22 =>
          intro l5_19 k6_20 k7_21 i_22_0 i_22_1 i_22_2 E H locs ls hP hD hS hl
          rw [F_X5_dried_L33.eq_2] at E
          refine lv_iload hx hb dX5_dried_33 (lv_at hl 6 rfl) ?_
          refine lv_iload hx hb dX5_dried_35 (lv_at hl 3 rfl) ?_
          refine x_icmp_ge (a := k7_21) (b := j_16) (tgt := 84) hx hb (by omega) (by omega) dX5_dried_37 (by decide) (fun c_23 => ?_) (fun c_23 => ?_)
          · have E := x_pos E c_23
            exact J_18 l5_19 E  H locs ls hP hD hS (lv_sub hl [4] rfl)
          · have E := x_neg E c_23
            refine lv_iload hx hb dX5_dried_40 (lv_at hl 4 rfl) ?_
            refine lv_iload_n hx hb dX5_dried_42 rfl (lv_at hl 1 rfl) ?_
            refine lv_isub hx hb dX5_dried_43 ?_
            refine lv_bipush (v := 10) hx hb dX5_dried_44 (by decide) ?_
            refine lv_iload hx hb dX5_dried_46 (lv_at hl 5 rfl) ?_
            refine lv_iadd hx hb dX5_dried_48 ?_
            refine x_eqi (nI_add 10 k6_20) ?_
            refine lv_idiv hx hb dX5_dried_49 (nI_ne0 (n := (10 + k6_20)) (by omega) (by omega)) ?_
            refine lv_istore (lv' := [(8, .int ((l5_19 - (nI j_8)) / (nI (10 + k6_20)))), (1, .int (nI j_7)), (2, .int (nI j_8)), (3, .int (nI j_9)), (4, .int (nI j_16)), (5, .int l5_19), (6, .int (nI k6_20)), (7, .int (nI k7_21))]) hx hb dX5_dried_50 hl (by decide) rfl (fun ls hl => ?_)
            refine lv_iload hx hb dX5_dried_52 (lv_at hl 5 rfl) ?_
            refine lv_iload hx hb dX5_dried_54 (lv_at hl 0 rfl) ?_
            refine lv_isub hx hb dX5_dried_56 ?_
            refine lv_istore (lv' := [(5, .int (l5_19 - ((l5_19 - (nI j_8)) / (nI (10 + k6_20))))), (8, .int ((l5_19 - (nI j_8)) / (nI (10 + k6_20)))), (1, .int (nI j_7)), (2, .int (nI j_8)), (3, .int (nI j_9)), (4, .int (nI j_16)), (6, .int (nI k6_20)), (7, .int (nI k7_21))]) hx hb dX5_dried_57 hl (by decide) rfl (fun ls hl => ?_)
            refine lv_iload hx hb dX5_dried_59 (lv_at hl 6 rfl) ?_
            refine lv_iload hx hb dX5_dried_61 (lv_at hl 1 rfl) ?_
            refine lv_iload_n hx hb dX5_dried_63 rfl (lv_at hl 2 rfl) ?_
            refine lv_bipush (v := 50) hx hb dX5_dried_64 (by decide) ?_
            refine lv_idiv hx hb dX5_dried_66 (by decide) ?_
            refine x_eqi (pk_div (a := j_7) (d := 50) (by omega) (by omega) (by omega)) ?_
            obtain ⟨o_25, E_25, E⟩ := x_nm_ex E
            have J_25 : ∀ (v_24 : Nat), o_25 = v_24 → (v_24 ≤ 9) → ∀ (H : Heap) (locs : List Loc) (ls : Array Slot), va_P g.1 vwCl [(tA, .inr (5, [.int (nI t_length), .ref tA_text, .int (nI t_at), .int (nI t_begin), .int t_told, .ref tA_is, .ref tA_doings, .ref tA_doing, .int t_items, .ref tA_row, .ref tA_isKept, .int t_when, .int t_most, .int t_mostAt, .int t_hiss, .ref tA_best, .ref tA_heats, .ref tA_orders, .ref tA_has, .int (nI t_tests), .ref tA_salt, .ref tA_crumbs, .long t_traced, .int t_hasSkin, .int t_hasBend]))] H → va_D A [(tA, .inr (5, [.int (nI t_length), .ref tA_text, .int (nI t_at), .int (nI t_begin), .int t_told, .ref tA_is, .ref tA_doings, .ref tA_doing, .int t_items, .ref tA_row, .ref tA_isKept, .int t_when, .int t_most, .int t_mostAt, .int t_hiss, .ref tA_best, .ref tA_heats, .ref tA_orders, .ref tA_has, .int (nI t_tests), .ref tA_salt, .ref tA_crumbs, .long t_traced, .int t_hasSkin, .int t_hasBend]))] → va_S A s.heap H locs → lv_has ls 9 [(1, .int (nI j_7)), (2, .int (nI j_8)), (3, .int (nI j_9)), (4, .int (nI j_16)), (5, .int (l5_19 - ((l5_19 - (nI j_8)) / (nI (10 + k6_20))))), (7, .int (nI k7_21))] → W p l e rX5_dried s m args below meth c H locs 0 0 Q (F0 m 75 ls [.int (nI v_24), .int (nI k6_20)]) := by
              intro v_24 hE f_25_0 H locs ls hP hD hS hl
              try rw [hE] at E
              refine lv_iadd hx hb dX5_dried_75 ?_
              refine x_eqi (nI_add k6_20 v_24) ?_
              refine lv_istore (lv' := [(6, .int (nI (k6_20 + v_24))), (1, .int (nI j_7)), (2, .int (nI j_8)), (3, .int (nI j_9)), (4, .int (nI j_16)), (5, .int (l5_19 - ((l5_19 - (nI j_8)) / (nI (10 + k6_20))))), (7, .int (nI k7_21))]) hx hb dX5_dried_76 hl (by decide) rfl (fun ls hl => ?_)
              refine lv_iinc (v := nI (k7_21 + 1)) (lv' := [(7, .int (nI (k7_21 + 1))), (6, .int (nI (k6_20 + v_24))), (1, .int (nI j_7)), (2, .int (nI j_8)), (3, .int (nI j_9)), (4, .int (nI j_16)), (5, .int (l5_19 - ((l5_19 - (nI j_8)) / (nI (10 + k6_20)))))]) hx hb dX5_dried_78 hl (k := 6) rfl (nI_1 k7_21) (by decide) rfl (fun ls hl => ?_)
              refine lv_goto (tgt := 33) hx hb dX5_dried_81 (by decide) ?_
              exact ih_22 (l5_19 - ((l5_19 - (nI j_8)) / (nI (10 + k6_20)))) (k6_20 + v_24) (k7_21 + 1) (by first | omega | assumption | exact Eq.trans (by assumption) (by assumption)) (by first | omega | assumption | exact Eq.trans (by assumption) (by assumption)) (by omega) E H locs ls hP hD hS (lv_sub hl [2, 3, 4, 5, 6, 1, 0] rfl)
            have E := E_25
            refine lv_icmp_le (tgt := 74) hx hb dX5_dried_67 (by decide) (fun c_26 => ?_) (fun c_26 => ?_)
            · have E := x_pos E c_26
              refine lv_iconst (v := 0) hx hb dX5_dried_74 (by decide) ?_
              exact J_25 0 E (by first | omega | assumption | rfl | exact Or.inl rfl | exact Or.inr (by omega)) H locs ls hP hD hS (lv_sub hl [2, 3, 4, 5, 0, 7] rfl)
            · have E := x_neg E c_26
              refine lv_iload_n hx hb dX5_dried_70 rfl (lv_at hl 4 rfl) ?_
              refine lv_goto (tgt := 75) hx hb dX5_dried_71 (by decide) ?_
              exact J_25 j_9 E (by first | omega | assumption | rfl | exact Or.inl rfl | exact Or.inr (by omega)) H locs ls hP hD hS (lv_sub hl [2, 3, 4, 5, 0, 7] rfl)
      exact L_22 (j_16 + 1) (nI j_7) 0 0 (by first | omega | assumption | rfl) (by first | omega | assumption | rfl) (by omega) E H locs ls hP hD hS (lv_sub hl [4, 5, 6, 7, 2, 1, 0] rfl)
    · have E := x_pos E c_14
      refine lv_iconst (v := (-1)) hx hb dX5_dried_22 (by decide) ?_
      exact RET (-1) () H locs _ _ (E.symm.trans hO) rfl hP hD hS dX5_dried_23
abbrev rX5_days : Room := { frames := 3, cells := 0, slots := 0, locals := 75 }
theorem vX5_days : yX5_days.cls = RX5 ∧ yX5_days.cls ≠ "java/lang/invoke/MethodHandle" ∧ yX5_days.cls ≠ "java/lang/invoke/VarHandle" ∧ (parseMethodDescriptor yX5_days.desc).map (fun d => d.parameters.length) = some 4 := by decide +kernel
abbrev wX5_days : List Cond := Cond.code yX5_days cX5_days 6 (some .int) :: wsL_law
def F_X5_days_L27 (j_7 : Nat) (j_8 : Nat) (j_9 : Nat) (j_16 : Nat) : Nat → Nat → Int32
  | 0, k5_17 => 0
  | n_18 + 1, k5_17 => if 200 < k5_17 then (-9) else x_nm (F_X5_dried (nI j_7) (nI j_8) (nI j_9) (nI k5_17)) fun z_20 => if (nI j_16) < z_20 then F_X5_days_L27 j_7 j_8 j_9 j_16 n_18 (k5_17 + 1) else nI k5_17
def F_X5_days (a1 : Int32) (a2 : Int32) (a3 : Int32) (a4 : Int32) : Int32 :=
  x_nm (F_X5_isDry a1 a2 a3) fun z_1 => if z_1 = 0 then (-1) else x_nm (a1.toNatClampNeg) fun j_7 => x_nm (a2.toNatClampNeg) fun j_8 => x_nm (a3.toNatClampNeg) fun j_9 => x_nm (F_X5_in a4.toInt64 0 9999) fun z_10 => if z_10 = 0 then (-1) else x_nm (a4.toNatClampNeg) fun j_16 => F_X5_days_L27 j_7 j_8 j_9 j_16 (201 + 1) 0
set_option maxHeartbeats 4000000 in
set_option maxRecDepth 100000 in
theorem m_X5_days (l : Launch) (g : x_G) (tA tA_text tA_is tA_doings tA_doing tA_row tA_isKept tA_best tA_heats tA_orders tA_has tA_salt tA_crumbs : Nat) (t_length : Nat) (t_at : Nat) (t_begin : Nat) (t_told : Int32) (t_items : Int32) (t_when : Int32) (t_most : Int32) (t_mostAt : Int32) (t_hiss : Int32) (t_tests : Nat) (t_traced : Int64) (t_hasSkin : Int32) (t_hasBend : Int32) (a1 : Int32) (a2 : Int32) (a3 : Int32) (a4 : Int32) : x_MetI l yX5_days wX5_days rX5_days g [.ref tA, .int a1, .int a2, .int a3, .int a4] [(tA, .inr (5, [.int (nI t_length), .ref tA_text, .int (nI t_at), .int (nI t_begin), .int t_told, .ref tA_is, .ref tA_doings, .ref tA_doing, .int t_items, .ref tA_row, .ref tA_isKept, .int t_when, .int t_most, .int t_mostAt, .int t_hiss, .ref tA_best, .ref tA_heats, .ref tA_orders, .ref tA_has, .int (nI t_tests), .ref tA_salt, .ref tA_crumbs, .long t_traced, .int t_hasSkin, .int t_hasBend]))] (fun (r : Int32) (u : Unit) => r = F_X5_days a1 a2 a3 a4) (fun _ => [(tA, .inr (5, [.int (nI t_length), .ref tA_text, .int (nI t_at), .int (nI t_begin), .int t_told, .ref tA_is, .ref tA_doings, .ref tA_doing, .int t_items, .ref tA_row, .ref tA_isKept, .int t_when, .int t_most, .int t_mostAt, .int t_hiss, .ref tA_best, .ref tA_heats, .ref tA_orders, .ref tA_has, .int (nI t_tests), .ref tA_salt, .ref tA_crumbs, .long t_traced, .int t_hasSkin, .int t_hasBend]))]) := by
  refine x_startI (cc := cX5_days) (maxL := 6) (by decide) rfl (Nat.le_of_ble_eq_true rfl) ?_
  intro p e s m args below meth c Q A ls H locs hx hb hml hown hts hK hX hP hD hS hA hl RET
  have hown : s.vm.findClass RX5 = some m.cls := hown
  have hl : lv_has ls 6 [(0, .ref tA), (1, .int a1), (2, .int a2), (3, .int a3), (4, .int a4)] := hl
  obtain ⟨o_0, hO⟩ : ∃ z, z = F_X5_days a1 a2 a3 a4 := ⟨_, rfl⟩
  have E := hO
  rw [F_X5_days.eq_1] at E
  refine lv_iload_n hx hb dX5_days_0 rfl (lv_at hl 1 rfl) ?_
  refine lv_iload_n hx hb dX5_days_1 rfl (lv_at hl 2 rfl) ?_
  refine lv_iload_n hx hb dX5_days_2 rfl (lv_at hl 3 rfl) ?_
  refine x_callS0 ⟨hx, hb, hml, hown, hts⟩ hK hX hP hD hS hA (m_X5_isDry l g a1 a2 a3) (va_cwS 3 hts (x_gS kw_766 kw_767 kw_5 kw_768) rfl rfl rfl vX5_isDryS ⟨Nat.le_of_ble_eq_true rfl, Nat.le_of_ble_eq_true rfl⟩) rfl hl.1 rfl (Nat.le_of_ble_eq_true rfl) dX5_days_3 ⟨Nat.zero_le _, Nat.zero_le _⟩ (fun z_1 _ H locs hw_2 hP hD hS => ?_)
  obtain ⟨hw_2, b_3⟩ := hw_2
  have E := x_nm_eq E hw_2
  refine lv_if_eq (tgt := 22) hx hb dX5_days_6 (by decide) (fun c_5 => ?_) (fun c_5 => ?_)
  · have E := x_pos E c_5
    refine lv_iconst (v := (-1)) hx hb dX5_days_22 (by decide) ?_
    exact RET (-1) () H locs _ _ (E.symm.trans hO) rfl hP hD hS dX5_days_23
  · have E := x_neg E c_5
    have r_6 := x_isDry (fun q => c_5 (hw_2.trans q))
    obtain ⟨j_7, hj⟩ : ∃ z, z = (a1).toNatClampNeg := ⟨_, rfl⟩
    have r_6_0 := r_6.1
    rw [← hj] at r_6_0
    obtain ⟨r_6_0_a, r_6_0_b, e_6_0⟩ := r_6_0
    have E := x_nm_eq E hj
    have hl : lv_has ls 6 [(0, .ref tA), (1, .int (nI j_7)), (2, .int a2), (3, .int a3), (4, .int a4)] := by rw [e_6_0] at hl; exact hl
    obtain ⟨j_8, hj⟩ : ∃ z, z = (a2).toNatClampNeg := ⟨_, rfl⟩
    have r_6_1 := r_6.2.1
    rw [← hj] at r_6_1
    obtain ⟨r_6_1_a, r_6_1_b, e_6_1⟩ := r_6_1
    have E := x_nm_eq E hj
    have hl : lv_has ls 6 [(0, .ref tA), (1, .int (nI j_7)), (2, .int (nI j_8)), (3, .int a3), (4, .int a4)] := by rw [e_6_1] at hl; exact hl
    obtain ⟨j_9, hj⟩ : ∃ z, z = (a3).toNatClampNeg := ⟨_, rfl⟩
    have r_6_2 := r_6.2.2
    rw [← hj] at r_6_2
    obtain ⟨r_6_2_a, r_6_2_b, e_6_2⟩ := r_6_2
    have E := x_nm_eq E hj
    have hl : lv_has ls 6 [(0, .ref tA), (1, .int (nI j_7)), (2, .int (nI j_8)), (3, .int (nI j_9)), (4, .int a4)] := by rw [e_6_2] at hl; exact hl
    refine lv_iload hx hb dX5_days_9 (lv_at hl 4 rfl) ?_
    refine lv_i2l (v := a4.toInt64) hx hb dX5_days_11 rfl ?_
    refine lv_lconst (v := 0) hx hb dX5_days_12 (by decide) ?_
    refine lv_ldc2 (v := 9999) hx hb hown (hts _ kw_769) dX5_days_13 ?_
    refine x_callS0 ⟨hx, hb, hml, hown, hts⟩ hK hX hP hD hS hA (m_X5_in l g a4.toInt64 0 9999) (va_cwS 3 hts (x_gS kw_129 kw_130 kw_5 kw_131) rfl rfl rfl vX5_inS ⟨Nat.le_of_ble_eq_true rfl, Nat.le_of_ble_eq_true rfl⟩) rfl hl.1 rfl (Nat.le_of_ble_eq_true rfl) dX5_days_16 ⟨Nat.zero_le _, Nat.zero_le _⟩ (fun z_10 _ H locs hw_11 hP hD hS => ?_)
    obtain ⟨hw_11, b_12⟩ := hw_11
    have E := x_nm_eq E hw_11
    refine x_if_neI (tgt := 24) hx hb dX5_days_19 (by decide) (fun c_14 => ?_) (fun c_14 => ?_)
    · have E := x_neg E c_14
      obtain ⟨j_16, hj⟩ : ∃ z, z = (a4).toNatClampNeg := ⟨_, rfl⟩
      have r_15_0 := (x_ins (lo := 0) (hi := 9999) (by omega) (by omega) (fun q => c_14 (hw_11.trans q)))
      rw [← hj] at r_15_0
      obtain ⟨r_15_0_a, r_15_0_b, e_15_0⟩ := r_15_0
      have E := x_nm_eq E hj
      have hl : lv_has ls 6 [(0, .ref tA), (1, .int (nI j_7)), (2, .int (nI j_8)), (3, .int (nI j_9)), (4, .int (nI j_16))] := by rw [e_15_0] at hl; exact hl
      refine lv_iconst (v := 0) hx hb dX5_days_24 (by decide) ?_
      refine lv_istore (lv' := [(5, .int 0), (0, .ref tA), (1, .int (nI j_7)), (2, .int (nI j_8)), (3, .int (nI j_9)), (4, .int (nI j_16))]) hx hb dX5_days_25 hl (by decide) rfl (fun ls hl => ?_)
      have L_18 : ∀ (n_18 : Nat) (k5_17 : Nat), (k5_17 ≤ 201) → ((201 - k5_17) < n_18) → o_0 = F_X5_days_L27 j_7 j_8 j_9 j_16 n_18 k5_17 → ∀ (H : Heap) (locs : List Loc) (ls : Array Slot), va_P g.1 vwCl [(tA, .inr (5, [.int (nI t_length), .ref tA_text, .int (nI t_at), .int (nI t_begin), .int t_told, .ref tA_is, .ref tA_doings, .ref tA_doing, .int t_items, .ref tA_row, .ref tA_isKept, .int t_when, .int t_most, .int t_mostAt, .int t_hiss, .ref tA_best, .ref tA_heats, .ref tA_orders, .ref tA_has, .int (nI t_tests), .ref tA_salt, .ref tA_crumbs, .long t_traced, .int t_hasSkin, .int t_hasBend]))] H → va_D A [(tA, .inr (5, [.int (nI t_length), .ref tA_text, .int (nI t_at), .int (nI t_begin), .int t_told, .ref tA_is, .ref tA_doings, .ref tA_doing, .int t_items, .ref tA_row, .ref tA_isKept, .int t_when, .int t_most, .int t_mostAt, .int t_hiss, .ref tA_best, .ref tA_heats, .ref tA_orders, .ref tA_has, .int (nI t_tests), .ref tA_salt, .ref tA_crumbs, .long t_traced, .int t_hasSkin, .int t_hasBend]))] → va_S A s.heap H locs → lv_has ls 6 [(0, .ref tA), (1, .int (nI j_7)), (2, .int (nI j_8)), (3, .int (nI j_9)), (4, .int (nI j_16)), (5, .int (nI k5_17))] → W p l e rX5_days s m args below meth c H locs 0 0 Q (F0 m 27 ls []) := by
        intro n_18
        induction n_18 with
        | zero => intro k5_17 i_18_0 i_18_1; exact absurd i_18_1 (by omega)
        | succ n_18 ih_18 =>
          intro k5_17 i_18_0 i_18_1 E H locs ls hP hD hS hl
          rw [F_X5_days_L27.eq_2] at E
          refine lv_iload hx hb dX5_days_27 (lv_at hl 5 rfl) ?_
          refine lv_sipush (v := 200) hx hb dX5_days_29 (by decide) ?_
          refine x_icmp_gt (a := k5_17) (b := 200) (tgt := 58) hx hb (by omega) (by omega) dX5_days_32 (by decide) (fun c_19 => ?_) (fun c_19 => ?_)
          · have E := x_pos E c_19
            refine lv_bipush (v := (-9)) hx hb dX5_days_58 (by decide) ?_
            exact RET (-9) () H locs _ _ (E.symm.trans hO) rfl hP hD hS dX5_days_60
          · have E := x_neg E c_19
            refine lv_aload_n hx hb dX5_days_35 rfl (lv_at hl 0 rfl) ?_
            refine lv_iload_n hx hb dX5_days_36 rfl (lv_at hl 1 rfl) ?_
            refine lv_iload_n hx hb dX5_days_37 rfl (lv_at hl 2 rfl) ?_
            refine lv_iload_n hx hb dX5_days_38 rfl (lv_at hl 3 rfl) ?_
            refine lv_iload hx hb dX5_days_39 (lv_at hl 5 rfl) ?_
            refine x_callVi (w2 := fun u => [(tA, .inr (5, [.int (nI t_length), .ref tA_text, .int (nI t_at), .int (nI t_begin), .int t_told, .ref tA_is, .ref tA_doings, .ref tA_doing, .int t_items, .ref tA_row, .ref tA_isKept, .int t_when, .int t_most, .int t_mostAt, .int t_hiss, .ref tA_best, .ref tA_heats, .ref tA_orders, .ref tA_has, .int (nI t_tests), .ref tA_salt, .ref tA_crumbs, .long t_traced, .int t_hasSkin, .int t_hasBend]))]) (wr := []) [0] [] [0] 0 5 ⟨hx, hb, hml, hown, hts⟩ hK hX hP hD hS hA (m_X5_dried l g tA tA_text tA_is tA_doings tA_doing tA_row tA_isKept tA_best tA_heats tA_orders tA_has tA_salt tA_crumbs t_length t_at t_begin t_told t_items t_when t_most t_mostAt t_hiss t_tests t_traced t_hasSkin t_hasBend (nI j_7) (nI j_8) (nI j_9) (nI k5_17)) (cwV 4 hts (x_gV kw_778 kw_762 kw_763 kw_5 kw_764) rfl rfl rfl vX5_dried ⟨Nat.le_of_ble_eq_true rfl, Nat.le_of_ble_eq_true rfl⟩) rfl rfl rfl rfl rfl rfl rfl (by decide) (fun _ => rfl) rfl rfl hl.1 rfl (Nat.le_of_ble_eq_true rfl) dX5_days_41 ⟨Nat.zero_le _, Nat.zero_le _⟩ (fun z_20 _ H locs hw_21 hP hD hS => ?_)
            have E := x_nm_eq E hw_21
            refine lv_iload hx hb dX5_days_44 (lv_at hl 4 rfl) ?_
            refine lv_icmp_gt (tgt := 52) hx hb dX5_days_46 (by decide) (fun c_23 => ?_) (fun c_23 => ?_)
            · have E := x_pos E c_23
              refine lv_iinc (v := nI (k5_17 + 1)) (lv' := [(5, .int (nI (k5_17 + 1))), (0, .ref tA), (1, .int (nI j_7)), (2, .int (nI j_8)), (3, .int (nI j_9)), (4, .int (nI j_16))]) hx hb dX5_days_52 hl (k := 5) rfl (nI_1 k5_17) (by decide) rfl (fun ls hl => ?_)
              refine lv_goto (tgt := 27) hx hb dX5_days_55 (by decide) ?_
              exact ih_18 (k5_17 + 1) (by first | omega | assumption | exact Eq.trans (by assumption) (by assumption)) (by omega) E H locs ls hP hD hS (lv_sub hl [1, 2, 3, 4, 5, 0] rfl)
            · have E := x_neg E c_23
              refine lv_iload hx hb dX5_days_49 (lv_at hl 5 rfl) ?_
              exact RET (nI k5_17) () H locs _ _ (E.symm.trans hO) rfl hP hD hS dX5_days_51
      exact L_18 (201 + 1) 0 (by first | omega | assumption | rfl) (by omega) E H locs ls hP hD hS (lv_sub hl [1, 2, 3, 4, 5, 0] rfl)
    · have E := x_pos E c_14
      refine lv_iconst (v := (-1)) hx hb dX5_days_22 (by decide) ?_
      exact RET (-1) () H locs _ _ (E.symm.trans hO) rfl hP hD hS dX5_days_23
abbrev rX5_test : Room := { frames := 1, cells := 0, slots := 0, locals := 25 }
theorem vX5_test : yX5_test.cls = RX5 ∧ yX5_test.cls ≠ "java/lang/invoke/MethodHandle" ∧ yX5_test.cls ≠ "java/lang/invoke/VarHandle" ∧ (parseMethodDescriptor yX5_test.desc).map (fun d => d.parameters.length) = some 2 := by decide +kernel
abbrev wX5_test : List Cond := Cond.code yX5_test cX5_test 3 (some .int) :: wsL_law
def F_X5_test (t_tests : Nat) (t_salt : Nat → Int32) (t_crumbs : Nat → Int32) (a1 : Int32) (a2 : Int32) : Int32 × Nat × (Nat → Int32) × (Nat → Int32) :=
  x_nm (F_X5_in a1.toInt64 0 30) fun z_1 => if z_1 = 0 then ((-1), t_tests, t_salt, t_crumbs) else x_nm (a1.toNatClampNeg) fun j_7 => x_nm (F_X5_in a2.toInt64 0 999) fun z_8 => if z_8 = 0 then ((-1), t_tests, t_salt, t_crumbs) else x_nm (a2.toNatClampNeg) fun j_14 => if t_tests = 20 then ((-3), t_tests, t_salt, t_crumbs) else x_nm (upd t_salt t_tests (nI j_7)) fun t_salt_16 => x_nm (upd t_crumbs t_tests (nI j_14)) fun t_crumbs_17 => (nI (t_tests + 1), t_tests + 1, t_salt_16, t_crumbs_17)
set_option maxHeartbeats 4000000 in
set_option maxRecDepth 100000 in
theorem m_X5_test (l : Launch) (g : x_G) (tA tA_salt tA_crumbs tA_text tA_is tA_doings tA_doing tA_row tA_isKept tA_best tA_heats tA_orders tA_has : Nat) (t_length : Nat) (t_at : Nat) (t_begin : Nat) (t_told : Int32) (t_items : Int32) (t_when : Int32) (t_most : Int32) (t_mostAt : Int32) (t_hiss : Int32) (t_tests : Nat) (t_traced : Int64) (t_hasSkin : Int32) (t_hasBend : Int32) (t_salt : Nat → Int32) (t_crumbs : Nat → Int32) (a1 : Int32) (a2 : Int32) (h_0 : t_tests ≤ 20) : x_MetI l yX5_test wX5_test rX5_test g [.ref tA, .int a1, .int a2] [(tA, .inr (5, [.int (nI t_length), .ref tA_text, .int (nI t_at), .int (nI t_begin), .int t_told, .ref tA_is, .ref tA_doings, .ref tA_doing, .int t_items, .ref tA_row, .ref tA_isKept, .int t_when, .int t_most, .int t_mostAt, .int t_hiss, .ref tA_best, .ref tA_heats, .ref tA_orders, .ref tA_has, .int (nI t_tests), .ref tA_salt, .ref tA_crumbs, .long t_traced, .int t_hasSkin, .int t_hasBend])), (tA_salt, .inl (g.2.1 0, 20, .inl t_salt)), (tA_crumbs, .inl (g.2.1 0, 20, .inl t_crumbs))] (fun (r : Int32) (u : Nat × (Nat → Int32) × (Nat → Int32)) => ((r, u) = F_X5_test t_tests t_salt t_crumbs a1 a2) ∧ (u.1 ≤ 20)) (fun u => [(tA, .inr (5, [.int (nI t_length), .ref tA_text, .int (nI t_at), .int (nI t_begin), .int t_told, .ref tA_is, .ref tA_doings, .ref tA_doing, .int t_items, .ref tA_row, .ref tA_isKept, .int t_when, .int t_most, .int t_mostAt, .int t_hiss, .ref tA_best, .ref tA_heats, .ref tA_orders, .ref tA_has, .int (nI u.1), .ref tA_salt, .ref tA_crumbs, .long t_traced, .int t_hasSkin, .int t_hasBend])), (tA_salt, .inl (g.2.1 0, 20, .inl u.2.1)), (tA_crumbs, .inl (g.2.1 0, 20, .inl u.2.2))]) := by
  refine x_startI (cc := cX5_test) (maxL := 3) (by decide) rfl (Nat.le_of_ble_eq_true rfl) ?_
  intro p e s m args below meth c Q A ls H locs hx hb hml hown hts hK hX hP hD hS hA hl RET
  have hown : s.vm.findClass RX5 = some m.cls := hown
  have hl : lv_has ls 3 [(0, .ref tA), (1, .int a1), (2, .int a2)] := hl
  obtain ⟨o_0, hO⟩ : ∃ z, z = F_X5_test t_tests t_salt t_crumbs a1 a2 := ⟨_, rfl⟩
  have E := hO
  rw [F_X5_test.eq_1] at E
  refine lv_iload_n hx hb dX5_test_0 rfl (lv_at hl 1 rfl) ?_
  refine lv_i2l (v := a1.toInt64) hx hb dX5_test_1 rfl ?_
  refine lv_lconst (v := 0) hx hb dX5_test_2 (by decide) ?_
  refine lv_ldc2 (v := 30) hx hb hown (hts _ kw_788) dX5_test_3 ?_
  refine x_callS0 ⟨hx, hb, hml, hown, hts⟩ hK hX hP hD hS hA (m_X5_in l g a1.toInt64 0 30) (va_cwS 3 hts (x_gS kw_129 kw_130 kw_5 kw_131) rfl rfl rfl vX5_inS ⟨Nat.le_of_ble_eq_true rfl, Nat.le_of_ble_eq_true rfl⟩) rfl hl.1 rfl (Nat.le_of_ble_eq_true rfl) dX5_test_6 ⟨Nat.zero_le _, Nat.zero_le _⟩ (fun z_1 _ H locs hw_2 hP hD hS => ?_)
  obtain ⟨hw_2, b_3⟩ := hw_2
  have E := x_nm_eq E hw_2
  refine lv_if_eq (tgt := 24) hx hb dX5_test_9 (by decide) (fun c_5 => ?_) (fun c_5 => ?_)
  · have E := x_pos E c_5
    refine lv_iconst (v := (-1)) hx hb dX5_test_24 (by decide) ?_
    exact RET (-1) (t_tests, t_salt, t_crumbs) H locs _ _ ⟨E.symm.trans hO, (show t_tests ≤ 20 by first | omega | assumption | exact Or.inl rfl | exact Or.inr (by omega))⟩ rfl hP hD hS dX5_test_25
  · have E := x_neg E c_5
    obtain ⟨j_7, hj⟩ : ∃ z, z = (a1).toNatClampNeg := ⟨_, rfl⟩
    have r_6_0 := (x_ins (lo := 0) (hi := 30) (by omega) (by omega) (fun q => c_5 (hw_2.trans q)))
    rw [← hj] at r_6_0
    obtain ⟨r_6_0_a, r_6_0_b, e_6_0⟩ := r_6_0
    have E := x_nm_eq E hj
    have hl : lv_has ls 3 [(0, .ref tA), (1, .int (nI j_7)), (2, .int a2)] := by rw [e_6_0] at hl; exact hl
    refine lv_iload_n hx hb dX5_test_12 rfl (lv_at hl 2 rfl) ?_
    refine lv_i2l (v := a2.toInt64) hx hb dX5_test_13 rfl ?_
    refine lv_lconst (v := 0) hx hb dX5_test_14 (by decide) ?_
    refine lv_ldc2 (v := 999) hx hb hown (hts _ kw_728) dX5_test_15 ?_
    refine x_callS0 ⟨hx, hb, hml, hown, hts⟩ hK hX hP hD hS hA (m_X5_in l g a2.toInt64 0 999) (va_cwS 3 hts (x_gS kw_129 kw_130 kw_5 kw_131) rfl rfl rfl vX5_inS ⟨Nat.le_of_ble_eq_true rfl, Nat.le_of_ble_eq_true rfl⟩) rfl hl.1 rfl (Nat.le_of_ble_eq_true rfl) dX5_test_18 ⟨Nat.zero_le _, Nat.zero_le _⟩ (fun z_8 _ H locs hw_9 hP hD hS => ?_)
    obtain ⟨hw_9, b_10⟩ := hw_9
    have E := x_nm_eq E hw_9
    refine x_if_neI (tgt := 26) hx hb dX5_test_21 (by decide) (fun c_12 => ?_) (fun c_12 => ?_)
    · have E := x_neg E c_12
      obtain ⟨j_14, hj⟩ : ∃ z, z = (a2).toNatClampNeg := ⟨_, rfl⟩
      have r_13_0 := (x_ins (lo := 0) (hi := 999) (by omega) (by omega) (fun q => c_12 (hw_9.trans q)))
      rw [← hj] at r_13_0
      obtain ⟨r_13_0_a, r_13_0_b, e_13_0⟩ := r_13_0
      have E := x_nm_eq E hj
      have hl : lv_has ls 3 [(0, .ref tA), (1, .int (nI j_7)), (2, .int (nI j_14))] := by rw [e_13_0] at hl; exact hl
      refine lv_aload_n hx hb dX5_test_26 rfl (lv_at hl 0 rfl) ?_
      refine va_get (ci := 5) (v := .int (nI t_tests)) (C := RX5) (T := TX5) (N := 25) hx hb hts inlX5 hown hK.1 hP 0 rfl rfl 19 (by decide) (hts _ kw_789) (fun _ h9 => h9) rfl dX5_test_27 ?_
      refine lv_bipush (v := 20) hx hb dX5_test_30 (by decide) ?_
      refine x_icmp_ne (a := t_tests) (b := 20) (tgt := 38) hx hb (by omega) (by omega) dX5_test_32 (by decide) (fun c_15 => ?_) (fun c_15 => ?_)
      · have E := x_neg E c_15
        refine lv_aload_n hx hb dX5_test_38 rfl (lv_at hl 0 rfl) ?_
        refine va_get (ci := 5) (v := .ref tA_salt) (C := RX5) (T := TX5) (N := 25) hx hb hts inlX5 hown hK.1 hP 0 rfl rfl 20 (by decide) (hts _ kw_104) (fun _ h9 => h9) rfl dX5_test_39 ?_
        refine lv_aload_n hx hb dX5_test_42 rfl (lv_at hl 0 rfl) ?_
        refine va_get (ci := 5) (v := .int (nI t_tests)) (C := RX5) (T := TX5) (N := 25) hx hb hts inlX5 hown hK.1 hP 0 rfl rfl 19 (by decide) (hts _ kw_789) (fun _ h9 => h9) rfl dX5_test_43 ?_
        refine lv_iload_n hx hb dX5_test_46 rfl (lv_at hl 1 rfl) ?_
        refine x_iastN hx hb hK hP hD hS 1 t_tests rfl (by omega) (by decide) dX5_test_47 (fun t_salt_16 H locs hf hP hD hS => ?_)
        have hP : va_P g.1 vwCl [(tA, .inr (5, [.int (nI t_length), .ref tA_text, .int (nI t_at), .int (nI t_begin), .int t_told, .ref tA_is, .ref tA_doings, .ref tA_doing, .int t_items, .ref tA_row, .ref tA_isKept, .int t_when, .int t_most, .int t_mostAt, .int t_hiss, .ref tA_best, .ref tA_heats, .ref tA_orders, .ref tA_has, .int (nI t_tests), .ref tA_salt, .ref tA_crumbs, .long t_traced, .int t_hasSkin, .int t_hasBend])), (tA_salt, .inl (g.2.1 0, 20, .inl t_salt_16)), (tA_crumbs, .inl (g.2.1 0, 20, .inl t_crumbs))] H := hP
        have hD : va_D A [(tA, .inr (5, [.int (nI t_length), .ref tA_text, .int (nI t_at), .int (nI t_begin), .int t_told, .ref tA_is, .ref tA_doings, .ref tA_doing, .int t_items, .ref tA_row, .ref tA_isKept, .int t_when, .int t_most, .int t_mostAt, .int t_hiss, .ref tA_best, .ref tA_heats, .ref tA_orders, .ref tA_has, .int (nI t_tests), .ref tA_salt, .ref tA_crumbs, .long t_traced, .int t_hasSkin, .int t_hasBend])), (tA_salt, .inl (g.2.1 0, 20, .inl t_salt_16)), (tA_crumbs, .inl (g.2.1 0, 20, .inl t_crumbs))] := hD
        have E := x_nm_eq E hf
        refine lv_aload_n hx hb dX5_test_48 rfl (lv_at hl 0 rfl) ?_
        refine va_get (ci := 5) (v := .ref tA_crumbs) (C := RX5) (T := TX5) (N := 25) hx hb hts inlX5 hown hK.1 hP 0 rfl rfl 21 (by decide) (hts _ kw_105) (fun _ h9 => h9) rfl dX5_test_49 ?_
        refine lv_aload_n hx hb dX5_test_52 rfl (lv_at hl 0 rfl) ?_
        refine va_get (ci := 5) (v := .int (nI t_tests)) (C := RX5) (T := TX5) (N := 25) hx hb hts inlX5 hown hK.1 hP 0 rfl rfl 19 (by decide) (hts _ kw_789) (fun _ h9 => h9) rfl dX5_test_53 ?_
        refine lv_iload_n hx hb dX5_test_56 rfl (lv_at hl 2 rfl) ?_
        refine x_iastN hx hb hK hP hD hS 2 t_tests rfl (by omega) (by decide) dX5_test_57 (fun t_crumbs_17 H locs hf hP hD hS => ?_)
        have hP : va_P g.1 vwCl [(tA, .inr (5, [.int (nI t_length), .ref tA_text, .int (nI t_at), .int (nI t_begin), .int t_told, .ref tA_is, .ref tA_doings, .ref tA_doing, .int t_items, .ref tA_row, .ref tA_isKept, .int t_when, .int t_most, .int t_mostAt, .int t_hiss, .ref tA_best, .ref tA_heats, .ref tA_orders, .ref tA_has, .int (nI t_tests), .ref tA_salt, .ref tA_crumbs, .long t_traced, .int t_hasSkin, .int t_hasBend])), (tA_salt, .inl (g.2.1 0, 20, .inl t_salt_16)), (tA_crumbs, .inl (g.2.1 0, 20, .inl t_crumbs_17))] H := hP
        have hD : va_D A [(tA, .inr (5, [.int (nI t_length), .ref tA_text, .int (nI t_at), .int (nI t_begin), .int t_told, .ref tA_is, .ref tA_doings, .ref tA_doing, .int t_items, .ref tA_row, .ref tA_isKept, .int t_when, .int t_most, .int t_mostAt, .int t_hiss, .ref tA_best, .ref tA_heats, .ref tA_orders, .ref tA_has, .int (nI t_tests), .ref tA_salt, .ref tA_crumbs, .long t_traced, .int t_hasSkin, .int t_hasBend])), (tA_salt, .inl (g.2.1 0, 20, .inl t_salt_16)), (tA_crumbs, .inl (g.2.1 0, 20, .inl t_crumbs_17))] := hD
        have E := x_nm_eq E hf
        refine lv_aload_n hx hb dX5_test_58 rfl (lv_at hl 0 rfl) ?_
        refine lv_dup hx hb dX5_test_59 rfl ?_
        refine va_get (ci := 5) (v := .int (nI t_tests)) (C := RX5) (T := TX5) (N := 25) hx hb hts inlX5 hown hK.1 hP 0 rfl rfl 19 (by decide) (hts _ kw_789) (fun _ h9 => h9) rfl dX5_test_60 ?_
        refine lv_iconst (v := 1) hx hb dX5_test_63 (by decide) ?_
        refine lv_iadd hx hb dX5_test_64 ?_
        refine x_eqi (nI_add t_tests 1) ?_
        refine va_put (ci := 5) (v := .int (nI (t_tests + 1))) (ty := .int) (C := RX5) (T := TX5) (N := 25) hx hb hts inlX5 tyX5 tyX5_ok nmX5 hown hK.1 hP hD hS 0 rfl rfl 19 (by decide) (hts _ kw_789) (fun _ h9 => h9) rfl (tyX5_ok 19 (by decide)) rfl rfl (Nat.le_of_ble_eq_true rfl) dX5_test_65 (fun H locs hP hD hS => ?_)
        have hP : va_P g.1 vwCl [(tA, .inr (5, [.int (nI t_length), .ref tA_text, .int (nI t_at), .int (nI t_begin), .int t_told, .ref tA_is, .ref tA_doings, .ref tA_doing, .int t_items, .ref tA_row, .ref tA_isKept, .int t_when, .int t_most, .int t_mostAt, .int t_hiss, .ref tA_best, .ref tA_heats, .ref tA_orders, .ref tA_has, .int (nI (t_tests + 1)), .ref tA_salt, .ref tA_crumbs, .long t_traced, .int t_hasSkin, .int t_hasBend])), (tA_salt, .inl (g.2.1 0, 20, .inl t_salt_16)), (tA_crumbs, .inl (g.2.1 0, 20, .inl t_crumbs_17))] H := hP
        have hD : va_D A [(tA, .inr (5, [.int (nI t_length), .ref tA_text, .int (nI t_at), .int (nI t_begin), .int t_told, .ref tA_is, .ref tA_doings, .ref tA_doing, .int t_items, .ref tA_row, .ref tA_isKept, .int t_when, .int t_most, .int t_mostAt, .int t_hiss, .ref tA_best, .ref tA_heats, .ref tA_orders, .ref tA_has, .int (nI (t_tests + 1)), .ref tA_salt, .ref tA_crumbs, .long t_traced, .int t_hasSkin, .int t_hasBend])), (tA_salt, .inl (g.2.1 0, 20, .inl t_salt_16)), (tA_crumbs, .inl (g.2.1 0, 20, .inl t_crumbs_17))] := hD
        refine lv_aload_n hx hb dX5_test_68 rfl (lv_at hl 0 rfl) ?_
        refine va_get (ci := 5) (v := .int (nI (t_tests + 1))) (C := RX5) (T := TX5) (N := 25) hx hb hts inlX5 hown hK.1 hP 0 rfl rfl 19 (by decide) (hts _ kw_789) (fun _ h9 => h9) rfl dX5_test_69 ?_
        exact RET (nI (t_tests + 1)) (t_tests + 1, t_salt_16, t_crumbs_17) H locs _ _ ⟨E.symm.trans hO, (show (t_tests + 1) ≤ 20 by first | omega | assumption | exact Or.inl rfl | exact Or.inr (by omega))⟩ rfl hP hD hS dX5_test_72
      · have E := x_pos E c_15
        refine lv_bipush (v := (-3)) hx hb dX5_test_35 (by decide) ?_
        exact RET (-3) (t_tests, t_salt, t_crumbs) H locs _ _ ⟨E.symm.trans hO, (show t_tests ≤ 20 by first | omega | assumption | exact Or.inl rfl | exact Or.inr (by omega))⟩ rfl hP hD hS dX5_test_37
    · have E := x_pos E c_12
      refine lv_iconst (v := (-1)) hx hb dX5_test_24 (by decide) ?_
      exact RET (-1) (t_tests, t_salt, t_crumbs) H locs _ _ ⟨E.symm.trans hO, (show t_tests ≤ 20 by first | omega | assumption | exact Or.inl rfl | exact Or.inr (by omega))⟩ rfl hP hD hS dX5_test_25
abbrev rX5_holds : Room := { frames := 1, cells := 0, slots := 0, locals := 25 }
theorem vX5_holds : yX5_holds.cls = RX5 ∧ yX5_holds.cls ≠ "java/lang/invoke/MethodHandle" ∧ yX5_holds.cls ≠ "java/lang/invoke/VarHandle" ∧ (parseMethodDescriptor yX5_holds.desc).map (fun d => d.parameters.length) = some 1 := by decide +kernel
abbrev wX5_holds : List Cond := Cond.code yX5_holds cX5_holds 6 (some .int) :: wsL_law
def F_X5_holds_L23 (t_tests : Nat) (t_salt : Nat → Int32) (t_crumbs : Nat → Int32) : Nat → Int32 → Int32 → Nat → Int32 × Int32
  | 0, l2_17, l3_18, k4_19 => (l2_17, l3_18)
  | n_20 + 1, l2_17, l3_18, k4_19 => if t_tests ≤ k4_19 then (l2_17, l3_18) else x_nm (α := Int32) (if 100 < (t_crumbs k4_19) then 0 else 1) fun u_23 => x_nm (α := Int32) (if u_23 = 0 then l2_17 else if l2_17 < 0 then t_salt k4_19 else if l2_17 ≤ (t_salt k4_19) then l2_17 else t_salt k4_19) fun u_25 => x_nm (α := Int32) (if u_23 = 0 then if (t_salt k4_19) ≤ l3_18 then l3_18 else t_salt k4_19 else l3_18) fun u_27 => F_X5_holds_L23 t_tests t_salt t_crumbs n_20 u_25 u_27 (k4_19 + 1)
def F_X5_holds (t_tests : Nat) (t_salt : Nat → Int32) (t_crumbs : Nat → Int32) (a1 : Int32) : Int32 :=
  x_nm (F_X5_in a1.toInt64 0 2) fun z_1 => if z_1 = 0 then (-1) else x_nm (a1.toNatClampNeg) fun j_7 => x_nm (α := Int32 × Int32) (F_X5_holds_L23 t_tests t_salt t_crumbs (t_tests + 1) (-9) (-9) 0) fun u_10 => x_nm (α := Int32) (if j_7 = 0 then u_10.1 else if j_7 = 1 then u_10.2 else if u_10.1 < 0 then 1 else if u_10.1 ≤ u_10.2 then 0 else 1) fun u_12 => u_12
set_option maxHeartbeats 4000000 in
set_option maxRecDepth 100000 in
theorem m_X5_holds (l : Launch) (g : x_G) (tA tA_salt tA_crumbs tA_text tA_is tA_doings tA_doing tA_row tA_isKept tA_best tA_heats tA_orders tA_has : Nat) (t_length : Nat) (t_at : Nat) (t_begin : Nat) (t_told : Int32) (t_items : Int32) (t_when : Int32) (t_most : Int32) (t_mostAt : Int32) (t_hiss : Int32) (t_tests : Nat) (t_traced : Int64) (t_hasSkin : Int32) (t_hasBend : Int32) (t_salt : Nat → Int32) (t_crumbs : Nat → Int32) (a1 : Int32) (h_0 : t_tests ≤ 20) : x_MetI l yX5_holds wX5_holds rX5_holds g [.ref tA, .int a1] [(tA, .inr (5, [.int (nI t_length), .ref tA_text, .int (nI t_at), .int (nI t_begin), .int t_told, .ref tA_is, .ref tA_doings, .ref tA_doing, .int t_items, .ref tA_row, .ref tA_isKept, .int t_when, .int t_most, .int t_mostAt, .int t_hiss, .ref tA_best, .ref tA_heats, .ref tA_orders, .ref tA_has, .int (nI t_tests), .ref tA_salt, .ref tA_crumbs, .long t_traced, .int t_hasSkin, .int t_hasBend])), (tA_salt, .inl (g.2.1 0, 20, .inl t_salt)), (tA_crumbs, .inl (g.2.1 0, 20, .inl t_crumbs))] (fun (r : Int32) (u : Unit) => r = F_X5_holds t_tests t_salt t_crumbs a1) (fun _ => [(tA, .inr (5, [.int (nI t_length), .ref tA_text, .int (nI t_at), .int (nI t_begin), .int t_told, .ref tA_is, .ref tA_doings, .ref tA_doing, .int t_items, .ref tA_row, .ref tA_isKept, .int t_when, .int t_most, .int t_mostAt, .int t_hiss, .ref tA_best, .ref tA_heats, .ref tA_orders, .ref tA_has, .int (nI t_tests), .ref tA_salt, .ref tA_crumbs, .long t_traced, .int t_hasSkin, .int t_hasBend])), (tA_salt, .inl (g.2.1 0, 20, .inl t_salt)), (tA_crumbs, .inl (g.2.1 0, 20, .inl t_crumbs))]) := by
  refine x_startI (cc := cX5_holds) (maxL := 6) (by decide) rfl (Nat.le_of_ble_eq_true rfl) ?_
  intro p e s m args below meth c Q A ls H locs hx hb hml hown hts hK hX hP hD hS hA hl RET
  have hown : s.vm.findClass RX5 = some m.cls := hown
  have hl : lv_has ls 6 [(0, .ref tA), (1, .int a1)] := hl
  obtain ⟨o_0, hO⟩ : ∃ z, z = F_X5_holds t_tests t_salt t_crumbs a1 := ⟨_, rfl⟩
  have E := hO
  rw [F_X5_holds.eq_1] at E
  refine lv_iload_n hx hb dX5_holds_0 rfl (lv_at hl 1 rfl) ?_
  refine lv_i2l (v := a1.toInt64) hx hb dX5_holds_1 rfl ?_
  refine lv_lconst (v := 0) hx hb dX5_holds_2 (by decide) ?_
  refine lv_ldc2 (v := 2) hx hb hown (hts _ kw_375) dX5_holds_3 ?_
  refine x_callS0 ⟨hx, hb, hml, hown, hts⟩ hK hX hP hD hS hA (m_X5_in l g a1.toInt64 0 2) (va_cwS 3 hts (x_gS kw_129 kw_130 kw_5 kw_131) rfl rfl rfl vX5_inS ⟨Nat.le_of_ble_eq_true rfl, Nat.le_of_ble_eq_true rfl⟩) rfl hl.1 rfl (Nat.le_of_ble_eq_true rfl) dX5_holds_6 ⟨Nat.zero_le _, Nat.zero_le _⟩ (fun z_1 _ H locs hw_2 hP hD hS => ?_)
  obtain ⟨hw_2, b_3⟩ := hw_2
  have E := x_nm_eq E hw_2
  refine x_if_neI (tgt := 14) hx hb dX5_holds_9 (by decide) (fun c_5 => ?_) (fun c_5 => ?_)
  · have E := x_neg E c_5
    obtain ⟨j_7, hj⟩ : ∃ z, z = (a1).toNatClampNeg := ⟨_, rfl⟩
    have r_6_0 := (x_ins (lo := 0) (hi := 2) (by omega) (by omega) (fun q => c_5 (hw_2.trans q)))
    rw [← hj] at r_6_0
    obtain ⟨r_6_0_a, r_6_0_b, e_6_0⟩ := r_6_0
    have E := x_nm_eq E hj
    have hl : lv_has ls 6 [(0, .ref tA), (1, .int (nI j_7))] := by rw [e_6_0] at hl; exact hl
    refine lv_bipush (v := (-9)) hx hb dX5_holds_14 (by decide) ?_
    refine lv_istore_n (lv' := [(2, .int (-9)), (0, .ref tA), (1, .int (nI j_7))]) hx hb dX5_holds_16 rfl hl (by decide) rfl (fun ls hl => ?_)
    refine lv_bipush (v := (-9)) hx hb dX5_holds_17 (by decide) ?_
    refine lv_istore_n (lv' := [(3, .int (-9)), (2, .int (-9)), (0, .ref tA), (1, .int (nI j_7))]) hx hb dX5_holds_19 rfl hl (by decide) rfl (fun ls hl => ?_)
    refine lv_iconst (v := 0) hx hb dX5_holds_20 (by decide) ?_
    refine lv_istore (lv' := [(4, .int 0), (3, .int (-9)), (2, .int (-9)), (0, .ref tA), (1, .int (nI j_7))]) hx hb dX5_holds_21 hl (by decide) rfl (fun ls hl => ?_)
    obtain ⟨o_10, E_10, E⟩ := x_nm_ex E
    have J_10 : ∀ (l2_8 : Int32) (l3_9 : Int32), o_10 = (l2_8, l3_9) → ∀ (H : Heap) (locs : List Loc) (ls : Array Slot), va_P g.1 vwCl [(tA, .inr (5, [.int (nI t_length), .ref tA_text, .int (nI t_at), .int (nI t_begin), .int t_told, .ref tA_is, .ref tA_doings, .ref tA_doing, .int t_items, .ref tA_row, .ref tA_isKept, .int t_when, .int t_most, .int t_mostAt, .int t_hiss, .ref tA_best, .ref tA_heats, .ref tA_orders, .ref tA_has, .int (nI t_tests), .ref tA_salt, .ref tA_crumbs, .long t_traced, .int t_hasSkin, .int t_hasBend])), (tA_salt, .inl (g.2.1 0, 20, .inl t_salt)), (tA_crumbs, .inl (g.2.1 0, 20, .inl t_crumbs))] H → va_D A [(tA, .inr (5, [.int (nI t_length), .ref tA_text, .int (nI t_at), .int (nI t_begin), .int t_told, .ref tA_is, .ref tA_doings, .ref tA_doing, .int t_items, .ref tA_row, .ref tA_isKept, .int t_when, .int t_most, .int t_mostAt, .int t_hiss, .ref tA_best, .ref tA_heats, .ref tA_orders, .ref tA_has, .int (nI t_tests), .ref tA_salt, .ref tA_crumbs, .long t_traced, .int t_hasSkin, .int t_hasBend])), (tA_salt, .inl (g.2.1 0, 20, .inl t_salt)), (tA_crumbs, .inl (g.2.1 0, 20, .inl t_crumbs))] → va_S A s.heap H locs → lv_has ls 6 [(1, .int (nI j_7)), (2, .int l2_8), (3, .int l3_9)] → W p l e rX5_holds s m args below meth c H locs 0 0 Q (F0 m 117 ls []) := by
      intro l2_8 l3_9 hE  H locs ls hP hD hS hl
      try rw [hE] at E
      refine lv_iload_n hx hb dX5_holds_117 rfl (lv_at hl 0 rfl) ?_
      obtain ⟨o_12, E_12, E⟩ := x_nm_ex E
      have J_12 : ∀ (v_11 : Int32), o_12 = v_11 → ∀ (H : Heap) (locs : List Loc) (ls : Array Slot), va_P g.1 vwCl [(tA, .inr (5, [.int (nI t_length), .ref tA_text, .int (nI t_at), .int (nI t_begin), .int t_told, .ref tA_is, .ref tA_doings, .ref tA_doing, .int t_items, .ref tA_row, .ref tA_isKept, .int t_when, .int t_most, .int t_mostAt, .int t_hiss, .ref tA_best, .ref tA_heats, .ref tA_orders, .ref tA_has, .int (nI t_tests), .ref tA_salt, .ref tA_crumbs, .long t_traced, .int t_hasSkin, .int t_hasBend])), (tA_salt, .inl (g.2.1 0, 20, .inl t_salt)), (tA_crumbs, .inl (g.2.1 0, 20, .inl t_crumbs))] H → va_D A [(tA, .inr (5, [.int (nI t_length), .ref tA_text, .int (nI t_at), .int (nI t_begin), .int t_told, .ref tA_is, .ref tA_doings, .ref tA_doing, .int t_items, .ref tA_row, .ref tA_isKept, .int t_when, .int t_most, .int t_mostAt, .int t_hiss, .ref tA_best, .ref tA_heats, .ref tA_orders, .ref tA_has, .int (nI t_tests), .ref tA_salt, .ref tA_crumbs, .long t_traced, .int t_hasSkin, .int t_hasBend])), (tA_salt, .inl (g.2.1 0, 20, .inl t_salt)), (tA_crumbs, .inl (g.2.1 0, 20, .inl t_crumbs))] → va_S A s.heap H locs → lv_has ls 6 [] → W p l e rX5_holds s m args below meth c H locs 0 0 Q (F0 m 148 ls [.int v_11]) := by
        intro v_11 hE  H locs ls hP hD hS hl
        try rw [hE] at E
        exact RET v_11 () H locs _ _ (E.symm.trans hO) rfl hP hD hS dX5_holds_148
      have E := E_12
      refine x_if_ne (a := j_7) (tgt := 125) hx hb (by omega) dX5_holds_118 (by decide) (fun c_13 => ?_) (fun c_13 => ?_)
      · have E := x_neg E c_13
        refine lv_iload_n hx hb dX5_holds_125 rfl (lv_at hl 0 rfl) ?_
        refine lv_iconst (v := 1) hx hb dX5_holds_126 (by decide) ?_
        refine x_icmp_ne (a := j_7) (b := 1) (tgt := 134) hx hb (by omega) (by omega) dX5_holds_127 (by decide) (fun c_14 => ?_) (fun c_14 => ?_)
        · have E := x_neg E c_14
          refine lv_iload_n hx hb dX5_holds_134 rfl (lv_at hl 1 rfl) ?_
          refine lv_if_lt (tgt := 143) hx hb dX5_holds_135 (by decide) (fun c_15 => ?_) (fun c_15 => ?_)
          · have E := x_pos E c_15
            refine lv_iconst (v := 1) hx hb dX5_holds_143 (by decide) ?_
            refine lv_goto (tgt := 148) hx hb dX5_holds_144 (by decide) ?_
            exact J_12 1 E  H locs ls hP hD hS (lv_sub hl [] rfl)
          · have E := x_neg E c_15
            refine lv_iload_n hx hb dX5_holds_138 rfl (lv_at hl 2 rfl) ?_
            refine lv_iload_n hx hb dX5_holds_139 rfl (lv_at hl 1 rfl) ?_
            refine lv_icmp_ge (tgt := 147) hx hb dX5_holds_140 (by decide) (fun c_16 => ?_) (fun c_16 => ?_)
            · have E := x_pos E c_16
              refine lv_iconst (v := 0) hx hb dX5_holds_147 (by decide) ?_
              exact J_12 0 E  H locs ls hP hD hS (lv_sub hl [] rfl)
            · have E := x_neg E c_16
              refine lv_iconst (v := 1) hx hb dX5_holds_143 (by decide) ?_
              refine lv_goto (tgt := 148) hx hb dX5_holds_144 (by decide) ?_
              exact J_12 1 E  H locs ls hP hD hS (lv_sub hl [] rfl)
        · have E := x_pos E c_14
          refine lv_iload_n hx hb dX5_holds_130 rfl (lv_at hl 2 rfl) ?_
          refine lv_goto (tgt := 148) hx hb dX5_holds_131 (by decide) ?_
          exact J_12 l3_9 E  H locs ls hP hD hS (lv_sub hl [] rfl)
      · have E := x_pos E c_13
        refine lv_iload_n hx hb dX5_holds_121 rfl (lv_at hl 1 rfl) ?_
        refine lv_goto (tgt := 148) hx hb dX5_holds_122 (by decide) ?_
        exact J_12 l2_8 E  H locs ls hP hD hS (lv_sub hl [] rfl)
    have E := E_10
    have L_20 : ∀ (n_20 : Nat) (l2_17 : Int32) (l3_18 : Int32) (k4_19 : Nat), (k4_19 ≤ t_tests) → ((t_tests - k4_19) < n_20) → o_10 = F_X5_holds_L23 t_tests t_salt t_crumbs n_20 l2_17 l3_18 k4_19 → ∀ (H : Heap) (locs : List Loc) (ls : Array Slot), va_P g.1 vwCl [(tA, .inr (5, [.int (nI t_length), .ref tA_text, .int (nI t_at), .int (nI t_begin), .int t_told, .ref tA_is, .ref tA_doings, .ref tA_doing, .int t_items, .ref tA_row, .ref tA_isKept, .int t_when, .int t_most, .int t_mostAt, .int t_hiss, .ref tA_best, .ref tA_heats, .ref tA_orders, .ref tA_has, .int (nI t_tests), .ref tA_salt, .ref tA_crumbs, .long t_traced, .int t_hasSkin, .int t_hasBend])), (tA_salt, .inl (g.2.1 0, 20, .inl t_salt)), (tA_crumbs, .inl (g.2.1 0, 20, .inl t_crumbs))] H → va_D A [(tA, .inr (5, [.int (nI t_length), .ref tA_text, .int (nI t_at), .int (nI t_begin), .int t_told, .ref tA_is, .ref tA_doings, .ref tA_doing, .int t_items, .ref tA_row, .ref tA_isKept, .int t_when, .int t_most, .int t_mostAt, .int t_hiss, .ref tA_best, .ref tA_heats, .ref tA_orders, .ref tA_has, .int (nI t_tests), .ref tA_salt, .ref tA_crumbs, .long t_traced, .int t_hasSkin, .int t_hasBend])), (tA_salt, .inl (g.2.1 0, 20, .inl t_salt)), (tA_crumbs, .inl (g.2.1 0, 20, .inl t_crumbs))] → va_S A s.heap H locs → lv_has ls 6 [(0, .ref tA), (1, .int (nI j_7)), (2, .int l2_17), (3, .int l3_18), (4, .int (nI k4_19))] → W p l e rX5_holds s m args below meth c H locs 0 0 Q (F0 m 23 ls []) := by
      intro n_20
      induction n_20 with
      | zero => intro l2_17 l3_18 k4_19 i_20_0 i_20_1; exact absurd i_20_1 (by omega)
      | succ n_20 ih_20 =>
        intro l2_17 l3_18 k4_19 i_20_0 i_20_1 E H locs ls hP hD hS hl
        rw [F_X5_holds_L23.eq_2] at E
        refine lv_iload hx hb dX5_holds_23 (lv_at hl 4 rfl) ?_
        refine lv_aload_n hx hb dX5_holds_25 rfl (lv_at hl 0 rfl) ?_
        refine va_get (ci := 5) (v := .int (nI t_tests)) (C := RX5) (T := TX5) (N := 25) hx hb hts inlX5 hown hK.1 hP 0 rfl rfl 19 (by decide) (hts _ kw_789) (fun _ h9 => h9) rfl dX5_holds_26 ?_
        refine x_icmp_ge (a := k4_19) (b := t_tests) (tgt := 117) hx hb (by omega) (by omega) dX5_holds_29 (by decide) (fun c_21 => ?_) (fun c_21 => ?_)
        · have E := x_pos E c_21
          exact J_10 l2_17 l3_18 E  H locs ls hP hD hS (lv_sub hl [1, 2, 3] rfl)
        · have E := x_neg E c_21
          refine lv_aload_n hx hb dX5_holds_32 rfl (lv_at hl 0 rfl) ?_
          refine va_get (ci := 5) (v := .ref tA_crumbs) (C := RX5) (T := TX5) (N := 25) hx hb hts inlX5 hown hK.1 hP 0 rfl rfl 21 (by decide) (hts _ kw_105) (fun _ h9 => h9) rfl dX5_holds_33 ?_
          refine lv_iload hx hb dX5_holds_36 (lv_at hl 4 rfl) ?_
          refine x_ialdN hx hb hK hP 2 k4_19 rfl (by omega) (by decide) dX5_holds_38 ?_
          refine lv_bipush (v := 100) hx hb dX5_holds_39 (by decide) ?_
          obtain ⟨o_23, E_23, E⟩ := x_nm_ex E
          have J_23 : ∀ (v_22 : Int32), o_23 = v_22 → ∀ (H : Heap) (locs : List Loc) (ls : Array Slot), va_P g.1 vwCl [(tA, .inr (5, [.int (nI t_length), .ref tA_text, .int (nI t_at), .int (nI t_begin), .int t_told, .ref tA_is, .ref tA_doings, .ref tA_doing, .int t_items, .ref tA_row, .ref tA_isKept, .int t_when, .int t_most, .int t_mostAt, .int t_hiss, .ref tA_best, .ref tA_heats, .ref tA_orders, .ref tA_has, .int (nI t_tests), .ref tA_salt, .ref tA_crumbs, .long t_traced, .int t_hasSkin, .int t_hasBend])), (tA_salt, .inl (g.2.1 0, 20, .inl t_salt)), (tA_crumbs, .inl (g.2.1 0, 20, .inl t_crumbs))] H → va_D A [(tA, .inr (5, [.int (nI t_length), .ref tA_text, .int (nI t_at), .int (nI t_begin), .int t_told, .ref tA_is, .ref tA_doings, .ref tA_doing, .int t_items, .ref tA_row, .ref tA_isKept, .int t_when, .int t_most, .int t_mostAt, .int t_hiss, .ref tA_best, .ref tA_heats, .ref tA_orders, .ref tA_has, .int (nI t_tests), .ref tA_salt, .ref tA_crumbs, .long t_traced, .int t_hasSkin, .int t_hasBend])), (tA_salt, .inl (g.2.1 0, 20, .inl t_salt)), (tA_crumbs, .inl (g.2.1 0, 20, .inl t_crumbs))] → va_S A s.heap H locs → lv_has ls 6 [(0, .ref tA), (1, .int (nI j_7)), (2, .int l2_17), (3, .int l3_18), (4, .int (nI k4_19))] → W p l e rX5_holds s m args below meth c H locs 0 0 Q (F0 m 49 ls [.int v_22]) := by
            intro v_22 hE  H locs ls hP hD hS hl
            try rw [hE] at E
            refine lv_istore (lv' := [(5, .int v_22), (0, .ref tA), (1, .int (nI j_7)), (2, .int l2_17), (3, .int l3_18), (4, .int (nI k4_19))]) hx hb dX5_holds_49 hl (by decide) rfl (fun ls hl => ?_)
            refine lv_iload hx hb dX5_holds_51 (lv_at hl 0 rfl) ?_
            obtain ⟨o_25, E_25, E⟩ := x_nm_ex E
            have J_25 : ∀ (v_24 : Int32), o_25 = v_24 → ∀ (H : Heap) (locs : List Loc) (ls : Array Slot), va_P g.1 vwCl [(tA, .inr (5, [.int (nI t_length), .ref tA_text, .int (nI t_at), .int (nI t_begin), .int t_told, .ref tA_is, .ref tA_doings, .ref tA_doing, .int t_items, .ref tA_row, .ref tA_isKept, .int t_when, .int t_most, .int t_mostAt, .int t_hiss, .ref tA_best, .ref tA_heats, .ref tA_orders, .ref tA_has, .int (nI t_tests), .ref tA_salt, .ref tA_crumbs, .long t_traced, .int t_hasSkin, .int t_hasBend])), (tA_salt, .inl (g.2.1 0, 20, .inl t_salt)), (tA_crumbs, .inl (g.2.1 0, 20, .inl t_crumbs))] H → va_D A [(tA, .inr (5, [.int (nI t_length), .ref tA_text, .int (nI t_at), .int (nI t_begin), .int t_told, .ref tA_is, .ref tA_doings, .ref tA_doing, .int t_items, .ref tA_row, .ref tA_isKept, .int t_when, .int t_most, .int t_mostAt, .int t_hiss, .ref tA_best, .ref tA_heats, .ref tA_orders, .ref tA_has, .int (nI t_tests), .ref tA_salt, .ref tA_crumbs, .long t_traced, .int t_hasSkin, .int t_hasBend])), (tA_salt, .inl (g.2.1 0, 20, .inl t_salt)), (tA_crumbs, .inl (g.2.1 0, 20, .inl t_crumbs))] → va_S A s.heap H locs → lv_has ls 6 [(0, .ref tA), (1, .int (nI j_7)), (3, .int l3_18), (4, .int (nI k4_19)), (5, .int v_22)] → W p l e rX5_holds s m args below meth c H locs 0 0 Q (F0 m 82 ls [.int v_24]) := by
              intro v_24 hE  H locs ls hP hD hS hl
              try rw [hE] at E
              refine lv_istore_n (lv' := [(2, .int v_24), (0, .ref tA), (1, .int (nI j_7)), (3, .int l3_18), (4, .int (nI k4_19)), (5, .int v_22)]) hx hb dX5_holds_82 rfl hl (by decide) rfl (fun ls hl => ?_)
              refine lv_iload hx hb dX5_holds_83 (lv_at hl 5 rfl) ?_
              obtain ⟨o_27, E_27, E⟩ := x_nm_ex E
              have J_27 : ∀ (v_26 : Int32), o_27 = v_26 → ∀ (H : Heap) (locs : List Loc) (ls : Array Slot), va_P g.1 vwCl [(tA, .inr (5, [.int (nI t_length), .ref tA_text, .int (nI t_at), .int (nI t_begin), .int t_told, .ref tA_is, .ref tA_doings, .ref tA_doing, .int t_items, .ref tA_row, .ref tA_isKept, .int t_when, .int t_most, .int t_mostAt, .int t_hiss, .ref tA_best, .ref tA_heats, .ref tA_orders, .ref tA_has, .int (nI t_tests), .ref tA_salt, .ref tA_crumbs, .long t_traced, .int t_hasSkin, .int t_hasBend])), (tA_salt, .inl (g.2.1 0, 20, .inl t_salt)), (tA_crumbs, .inl (g.2.1 0, 20, .inl t_crumbs))] H → va_D A [(tA, .inr (5, [.int (nI t_length), .ref tA_text, .int (nI t_at), .int (nI t_begin), .int t_told, .ref tA_is, .ref tA_doings, .ref tA_doing, .int t_items, .ref tA_row, .ref tA_isKept, .int t_when, .int t_most, .int t_mostAt, .int t_hiss, .ref tA_best, .ref tA_heats, .ref tA_orders, .ref tA_has, .int (nI t_tests), .ref tA_salt, .ref tA_crumbs, .long t_traced, .int t_hasSkin, .int t_hasBend])), (tA_salt, .inl (g.2.1 0, 20, .inl t_salt)), (tA_crumbs, .inl (g.2.1 0, 20, .inl t_crumbs))] → va_S A s.heap H locs → lv_has ls 6 [(0, .ref tA), (1, .int (nI j_7)), (2, .int v_24), (4, .int (nI k4_19))] → W p l e rX5_holds s m args below meth c H locs 0 0 Q (F0 m 110 ls [.int v_26]) := by
                intro v_26 hE  H locs ls hP hD hS hl
                try rw [hE] at E
                refine lv_istore_n (lv' := [(3, .int v_26), (0, .ref tA), (1, .int (nI j_7)), (2, .int v_24), (4, .int (nI k4_19))]) hx hb dX5_holds_110 rfl hl (by decide) rfl (fun ls hl => ?_)
                refine lv_iinc (v := nI (k4_19 + 1)) (lv' := [(4, .int (nI (k4_19 + 1))), (3, .int v_26), (0, .ref tA), (1, .int (nI j_7)), (2, .int v_24)]) hx hb dX5_holds_111 hl (k := 4) rfl (nI_1 k4_19) (by decide) rfl (fun ls hl => ?_)
                refine lv_goto (tgt := 23) hx hb dX5_holds_114 (by decide) ?_
                exact ih_20 v_24 v_26 (k4_19 + 1) (by first | omega | assumption | exact Eq.trans (by assumption) (by assumption)) (by omega) E H locs ls hP hD hS (lv_sub hl [2, 3, 4, 1, 0] rfl)
              have E := E_27
              refine x_if_neI (tgt := 109) hx hb dX5_holds_85 (by decide) (fun c_28 => ?_) (fun c_28 => ?_)
              · have E := x_neg E c_28
                refine lv_iload_n hx hb dX5_holds_109 rfl (lv_at hl 3 rfl) ?_
                exact J_27 l3_18 E  H locs ls hP hD hS (lv_sub hl [1, 2, 0, 4] rfl)
              · have E := x_pos E c_28
                refine lv_aload_n hx hb dX5_holds_88 rfl (lv_at hl 1 rfl) ?_
                refine va_get (ci := 5) (v := .ref tA_salt) (C := RX5) (T := TX5) (N := 25) hx hb hts inlX5 hown hK.1 hP 0 rfl rfl 20 (by decide) (hts _ kw_104) (fun _ h9 => h9) rfl dX5_holds_89 ?_
                refine lv_iload hx hb dX5_holds_92 (lv_at hl 4 rfl) ?_
                refine x_ialdN hx hb hK hP 1 k4_19 rfl (by omega) (by decide) dX5_holds_94 ?_
                refine lv_iload_n hx hb dX5_holds_95 rfl (lv_at hl 3 rfl) ?_
                refine lv_icmp_le (tgt := 109) hx hb dX5_holds_96 (by decide) (fun c_29 => ?_) (fun c_29 => ?_)
                · have E := x_pos E c_29
                  refine lv_iload_n hx hb dX5_holds_109 rfl (lv_at hl 3 rfl) ?_
                  exact J_27 l3_18 E  H locs ls hP hD hS (lv_sub hl [1, 2, 0, 4] rfl)
                · have E := x_neg E c_29
                  refine lv_aload_n hx hb dX5_holds_99 rfl (lv_at hl 1 rfl) ?_
                  refine va_get (ci := 5) (v := .ref tA_salt) (C := RX5) (T := TX5) (N := 25) hx hb hts inlX5 hown hK.1 hP 0 rfl rfl 20 (by decide) (hts _ kw_104) (fun _ h9 => h9) rfl dX5_holds_100 ?_
                  refine lv_iload hx hb dX5_holds_103 (lv_at hl 4 rfl) ?_
                  refine x_ialdN hx hb hK hP 1 k4_19 rfl (by omega) (by decide) dX5_holds_105 ?_
                  refine lv_goto (tgt := 110) hx hb dX5_holds_106 (by decide) ?_
                  exact J_27 (t_salt k4_19) E  H locs ls hP hD hS (lv_sub hl [1, 2, 0, 4] rfl)
            have E := E_25
            refine lv_if_eq (tgt := 81) hx hb dX5_holds_53 (by decide) (fun c_30 => ?_) (fun c_30 => ?_)
            · have E := x_pos E c_30
              refine lv_iload_n hx hb dX5_holds_81 rfl (lv_at hl 3 rfl) ?_
              exact J_25 l2_17 E  H locs ls hP hD hS (lv_sub hl [1, 2, 4, 5, 0] rfl)
            · have E := x_neg E c_30
              refine lv_iload_n hx hb dX5_holds_56 rfl (lv_at hl 3 rfl) ?_
              refine lv_if_lt (tgt := 71) hx hb dX5_holds_57 (by decide) (fun c_31 => ?_) (fun c_31 => ?_)
              · have E := x_pos E c_31
                refine lv_aload_n hx hb dX5_holds_71 rfl (lv_at hl 1 rfl) ?_
                refine va_get (ci := 5) (v := .ref tA_salt) (C := RX5) (T := TX5) (N := 25) hx hb hts inlX5 hown hK.1 hP 0 rfl rfl 20 (by decide) (hts _ kw_104) (fun _ h9 => h9) rfl dX5_holds_72 ?_
                refine lv_iload hx hb dX5_holds_75 (lv_at hl 5 rfl) ?_
                refine x_ialdN hx hb hK hP 1 k4_19 rfl (by omega) (by decide) dX5_holds_77 ?_
                refine lv_goto (tgt := 82) hx hb dX5_holds_78 (by decide) ?_
                exact J_25 (t_salt k4_19) E  H locs ls hP hD hS (lv_sub hl [1, 2, 4, 5, 0] rfl)
              · have E := x_neg E c_31
                refine lv_aload_n hx hb dX5_holds_60 rfl (lv_at hl 1 rfl) ?_
                refine va_get (ci := 5) (v := .ref tA_salt) (C := RX5) (T := TX5) (N := 25) hx hb hts inlX5 hown hK.1 hP 0 rfl rfl 20 (by decide) (hts _ kw_104) (fun _ h9 => h9) rfl dX5_holds_61 ?_
                refine lv_iload hx hb dX5_holds_64 (lv_at hl 5 rfl) ?_
                refine x_ialdN hx hb hK hP 1 k4_19 rfl (by omega) (by decide) dX5_holds_66 ?_
                refine lv_iload_n hx hb dX5_holds_67 rfl (lv_at hl 3 rfl) ?_
                refine lv_icmp_ge (tgt := 81) hx hb dX5_holds_68 (by decide) (fun c_32 => ?_) (fun c_32 => ?_)
                · have E := x_pos E c_32
                  refine lv_iload_n hx hb dX5_holds_81 rfl (lv_at hl 3 rfl) ?_
                  exact J_25 l2_17 E  H locs ls hP hD hS (lv_sub hl [1, 2, 4, 5, 0] rfl)
                · have E := x_neg E c_32
                  refine lv_aload_n hx hb dX5_holds_71 rfl (lv_at hl 1 rfl) ?_
                  refine va_get (ci := 5) (v := .ref tA_salt) (C := RX5) (T := TX5) (N := 25) hx hb hts inlX5 hown hK.1 hP 0 rfl rfl 20 (by decide) (hts _ kw_104) (fun _ h9 => h9) rfl dX5_holds_72 ?_
                  refine lv_iload hx hb dX5_holds_75 (lv_at hl 5 rfl) ?_
                  refine x_ialdN hx hb hK hP 1 k4_19 rfl (by omega) (by decide) dX5_holds_77 ?_
                  refine lv_goto (tgt := 82) hx hb dX5_holds_78 (by decide) ?_
                  exact J_25 (t_salt k4_19) E  H locs ls hP hD hS (lv_sub hl [1, 2, 4, 5, 0] rfl)
          have E := E_23
          refine lv_icmp_gt (tgt := 48) hx hb dX5_holds_41 (by decide) (fun c_33 => ?_) (fun c_33 => ?_)
          · have E := x_pos E c_33
            refine lv_iconst (v := 0) hx hb dX5_holds_48 (by decide) ?_
            exact J_23 0 E  H locs ls hP hD hS (lv_sub hl [0, 1, 2, 3, 4] rfl)
          · have E := x_neg E c_33
            refine lv_iconst (v := 1) hx hb dX5_holds_44 (by decide) ?_
            refine lv_goto (tgt := 49) hx hb dX5_holds_45 (by decide) ?_
            exact J_23 1 E  H locs ls hP hD hS (lv_sub hl [0, 1, 2, 3, 4] rfl)
    exact L_20 (t_tests + 1) (-9) (-9) 0 (by first | omega | assumption | rfl) (by omega) E H locs ls hP hD hS (lv_sub hl [3, 4, 2, 1, 0] rfl)
  · have E := x_pos E c_5
    refine lv_iconst (v := (-1)) hx hb dX5_holds_12 (by decide) ?_
    exact RET (-1) () H locs _ _ (E.symm.trans hO) rfl hP hD hS dX5_holds_13
abbrev rX5_tube : Room := { frames := 1, cells := 0, slots := 0, locals := 25 }
theorem vX5_tube : yX5_tube.cls = RX5 ∧ yX5_tube.cls ≠ "java/lang/invoke/MethodHandle" ∧ yX5_tube.cls ≠ "java/lang/invoke/VarHandle" ∧ (parseMethodDescriptor yX5_tube.desc).map (fun d => d.parameters.length) = some 3 := by decide +kernel
abbrev wX5_tube : List Cond := Cond.code yX5_tube cX5_tube 4 (some .int) :: wsL_law
def F_X5_tube (a1 : Int32) (a2 : Int32) (a3 : Int32) : Int32 :=
  x_nm (F_X5_in a1.toInt64 1 99) fun z_1 => if z_1 = 0 then (-1) else x_nm (a1.toNatClampNeg) fun j_7 => x_nm (F_X5_in a2.toInt64 1 999) fun z_8 => if z_8 = 0 then (-1) else x_nm (a2.toNatClampNeg) fun j_14 => x_nm (F_X5_in a3.toInt64 0 1) fun z_15 => if z_15 = 0 then (-1) else x_nm (a3.toNatClampNeg) fun j_21 => x_nm (α := Int32) (if j_21 = 0 then nI (j_14 / j_7) else nI ((2 * j_14) / j_7)) fun u_23 => u_23
set_option maxHeartbeats 4000000 in
set_option maxRecDepth 100000 in
theorem m_X5_tube (l : Launch) (g : x_G) (tA tA_text tA_is tA_doings tA_doing tA_row tA_isKept tA_best tA_heats tA_orders tA_has tA_salt tA_crumbs : Nat) (t_length : Nat) (t_at : Nat) (t_begin : Nat) (t_told : Int32) (t_items : Int32) (t_when : Int32) (t_most : Int32) (t_mostAt : Int32) (t_hiss : Int32) (t_tests : Nat) (t_traced : Int64) (t_hasSkin : Int32) (t_hasBend : Int32) (a1 : Int32) (a2 : Int32) (a3 : Int32) : x_MetI l yX5_tube wX5_tube rX5_tube g [.ref tA, .int a1, .int a2, .int a3] [(tA, .inr (5, [.int (nI t_length), .ref tA_text, .int (nI t_at), .int (nI t_begin), .int t_told, .ref tA_is, .ref tA_doings, .ref tA_doing, .int t_items, .ref tA_row, .ref tA_isKept, .int t_when, .int t_most, .int t_mostAt, .int t_hiss, .ref tA_best, .ref tA_heats, .ref tA_orders, .ref tA_has, .int (nI t_tests), .ref tA_salt, .ref tA_crumbs, .long t_traced, .int t_hasSkin, .int t_hasBend]))] (fun (r : Int32) (u : Unit) => r = F_X5_tube a1 a2 a3) (fun _ => [(tA, .inr (5, [.int (nI t_length), .ref tA_text, .int (nI t_at), .int (nI t_begin), .int t_told, .ref tA_is, .ref tA_doings, .ref tA_doing, .int t_items, .ref tA_row, .ref tA_isKept, .int t_when, .int t_most, .int t_mostAt, .int t_hiss, .ref tA_best, .ref tA_heats, .ref tA_orders, .ref tA_has, .int (nI t_tests), .ref tA_salt, .ref tA_crumbs, .long t_traced, .int t_hasSkin, .int t_hasBend]))]) := by
  refine x_startI (cc := cX5_tube) (maxL := 4) (by decide) rfl (Nat.le_of_ble_eq_true rfl) ?_
  intro p e s m args below meth c Q A ls H locs hx hb hml hown hts hK hX hP hD hS hA hl RET
  have hown : s.vm.findClass RX5 = some m.cls := hown
  have hl : lv_has ls 4 [(0, .ref tA), (1, .int a1), (2, .int a2), (3, .int a3)] := hl
  obtain ⟨o_0, hO⟩ : ∃ z, z = F_X5_tube a1 a2 a3 := ⟨_, rfl⟩
  have E := hO
  rw [F_X5_tube.eq_1] at E
  refine lv_iload_n hx hb dX5_tube_0 rfl (lv_at hl 1 rfl) ?_
  refine lv_i2l (v := a1.toInt64) hx hb dX5_tube_1 rfl ?_
  refine lv_lconst (v := 1) hx hb dX5_tube_2 (by decide) ?_
  refine lv_ldc2 (v := 99) hx hb hown (hts _ kw_443) dX5_tube_3 ?_
  refine x_callS0 ⟨hx, hb, hml, hown, hts⟩ hK hX hP hD hS hA (m_X5_in l g a1.toInt64 1 99) (va_cwS 3 hts (x_gS kw_129 kw_130 kw_5 kw_131) rfl rfl rfl vX5_inS ⟨Nat.le_of_ble_eq_true rfl, Nat.le_of_ble_eq_true rfl⟩) rfl hl.1 rfl (Nat.le_of_ble_eq_true rfl) dX5_tube_6 ⟨Nat.zero_le _, Nat.zero_le _⟩ (fun z_1 _ H locs hw_2 hP hD hS => ?_)
  obtain ⟨hw_2, b_3⟩ := hw_2
  have E := x_nm_eq E hw_2
  refine lv_if_eq (tgt := 34) hx hb dX5_tube_9 (by decide) (fun c_5 => ?_) (fun c_5 => ?_)
  · have E := x_pos E c_5
    refine lv_iconst (v := (-1)) hx hb dX5_tube_34 (by decide) ?_
    exact RET (-1) () H locs _ _ (E.symm.trans hO) rfl hP hD hS dX5_tube_35
  · have E := x_neg E c_5
    obtain ⟨j_7, hj⟩ : ∃ z, z = (a1).toNatClampNeg := ⟨_, rfl⟩
    have r_6_0 := (x_ins (lo := 1) (hi := 99) (by omega) (by omega) (fun q => c_5 (hw_2.trans q)))
    rw [← hj] at r_6_0
    obtain ⟨r_6_0_a, r_6_0_b, e_6_0⟩ := r_6_0
    have E := x_nm_eq E hj
    have hl : lv_has ls 4 [(0, .ref tA), (1, .int (nI j_7)), (2, .int a2), (3, .int a3)] := by rw [e_6_0] at hl; exact hl
    refine lv_iload_n hx hb dX5_tube_12 rfl (lv_at hl 2 rfl) ?_
    refine lv_i2l (v := a2.toInt64) hx hb dX5_tube_13 rfl ?_
    refine lv_lconst (v := 1) hx hb dX5_tube_14 (by decide) ?_
    refine lv_ldc2 (v := 999) hx hb hown (hts _ kw_728) dX5_tube_15 ?_
    refine x_callS0 ⟨hx, hb, hml, hown, hts⟩ hK hX hP hD hS hA (m_X5_in l g a2.toInt64 1 999) (va_cwS 3 hts (x_gS kw_129 kw_130 kw_5 kw_131) rfl rfl rfl vX5_inS ⟨Nat.le_of_ble_eq_true rfl, Nat.le_of_ble_eq_true rfl⟩) rfl hl.1 rfl (Nat.le_of_ble_eq_true rfl) dX5_tube_18 ⟨Nat.zero_le _, Nat.zero_le _⟩ (fun z_8 _ H locs hw_9 hP hD hS => ?_)
    obtain ⟨hw_9, b_10⟩ := hw_9
    have E := x_nm_eq E hw_9
    refine lv_if_eq (tgt := 34) hx hb dX5_tube_21 (by decide) (fun c_12 => ?_) (fun c_12 => ?_)
    · have E := x_pos E c_12
      refine lv_iconst (v := (-1)) hx hb dX5_tube_34 (by decide) ?_
      exact RET (-1) () H locs _ _ (E.symm.trans hO) rfl hP hD hS dX5_tube_35
    · have E := x_neg E c_12
      obtain ⟨j_14, hj⟩ : ∃ z, z = (a2).toNatClampNeg := ⟨_, rfl⟩
      have r_13_0 := (x_ins (lo := 1) (hi := 999) (by omega) (by omega) (fun q => c_12 (hw_9.trans q)))
      rw [← hj] at r_13_0
      obtain ⟨r_13_0_a, r_13_0_b, e_13_0⟩ := r_13_0
      have E := x_nm_eq E hj
      have hl : lv_has ls 4 [(0, .ref tA), (1, .int (nI j_7)), (2, .int (nI j_14)), (3, .int a3)] := by rw [e_13_0] at hl; exact hl
      refine lv_iload_n hx hb dX5_tube_24 rfl (lv_at hl 3 rfl) ?_
      refine lv_i2l (v := a3.toInt64) hx hb dX5_tube_25 rfl ?_
      refine lv_lconst (v := 0) hx hb dX5_tube_26 (by decide) ?_
      refine lv_lconst (v := 1) hx hb dX5_tube_27 (by decide) ?_
      refine x_callS0 ⟨hx, hb, hml, hown, hts⟩ hK hX hP hD hS hA (m_X5_in l g a3.toInt64 0 1) (va_cwS 3 hts (x_gS kw_129 kw_130 kw_5 kw_131) rfl rfl rfl vX5_inS ⟨Nat.le_of_ble_eq_true rfl, Nat.le_of_ble_eq_true rfl⟩) rfl hl.1 rfl (Nat.le_of_ble_eq_true rfl) dX5_tube_28 ⟨Nat.zero_le _, Nat.zero_le _⟩ (fun z_15 _ H locs hw_16 hP hD hS => ?_)
      obtain ⟨hw_16, b_17⟩ := hw_16
      have E := x_nm_eq E hw_16
      refine x_if_neI (tgt := 36) hx hb dX5_tube_31 (by decide) (fun c_19 => ?_) (fun c_19 => ?_)
      · have E := x_neg E c_19
        obtain ⟨j_21, hj⟩ : ∃ z, z = (a3).toNatClampNeg := ⟨_, rfl⟩
        have r_20_0 := (x_ins (lo := 0) (hi := 1) (by omega) (by omega) (fun q => c_19 (hw_16.trans q)))
        rw [← hj] at r_20_0
        obtain ⟨r_20_0_a, r_20_0_b, e_20_0⟩ := r_20_0
        have E := x_nm_eq E hj
        have hl : lv_has ls 4 [(0, .ref tA), (1, .int (nI j_7)), (2, .int (nI j_14)), (3, .int (nI j_21))] := by rw [e_20_0] at hl; exact hl
        refine lv_iload_n hx hb dX5_tube_36 rfl (lv_at hl 3 rfl) ?_
        obtain ⟨o_23, E_23, E⟩ := x_nm_ex E
        have J_23 : ∀ (v_22 : Int32), o_23 = v_22 → ∀ (H : Heap) (locs : List Loc) (ls : Array Slot), va_P g.1 vwCl [(tA, .inr (5, [.int (nI t_length), .ref tA_text, .int (nI t_at), .int (nI t_begin), .int t_told, .ref tA_is, .ref tA_doings, .ref tA_doing, .int t_items, .ref tA_row, .ref tA_isKept, .int t_when, .int t_most, .int t_mostAt, .int t_hiss, .ref tA_best, .ref tA_heats, .ref tA_orders, .ref tA_has, .int (nI t_tests), .ref tA_salt, .ref tA_crumbs, .long t_traced, .int t_hasSkin, .int t_hasBend]))] H → va_D A [(tA, .inr (5, [.int (nI t_length), .ref tA_text, .int (nI t_at), .int (nI t_begin), .int t_told, .ref tA_is, .ref tA_doings, .ref tA_doing, .int t_items, .ref tA_row, .ref tA_isKept, .int t_when, .int t_most, .int t_mostAt, .int t_hiss, .ref tA_best, .ref tA_heats, .ref tA_orders, .ref tA_has, .int (nI t_tests), .ref tA_salt, .ref tA_crumbs, .long t_traced, .int t_hasSkin, .int t_hasBend]))] → va_S A s.heap H locs → lv_has ls 4 [] → W p l e rX5_tube s m args below meth c H locs 0 0 Q (F0 m 51 ls [.int v_22]) := by
          intro v_22 hE  H locs ls hP hD hS hl
          try rw [hE] at E
          exact RET v_22 () H locs _ _ (E.symm.trans hO) rfl hP hD hS dX5_tube_51
        have E := E_23
        refine x_if_ne (a := j_21) (tgt := 46) hx hb (by omega) dX5_tube_37 (by decide) (fun c_24 => ?_) (fun c_24 => ?_)
        · have E := x_neg E c_24
          refine lv_iconst (v := 2) hx hb dX5_tube_46 (by decide) ?_
          refine lv_iload_n hx hb dX5_tube_47 rfl (lv_at hl 2 rfl) ?_
          refine lv_imul hx hb dX5_tube_48 ?_
          refine x_eqi (pk_mul 2 j_14) ?_
          refine lv_iload_n hx hb dX5_tube_49 rfl (lv_at hl 1 rfl) ?_
          refine lv_idiv hx hb dX5_tube_50 (nI_ne0 (n := j_7) (by omega) (by omega)) ?_
          refine x_eqi (pk_div (a := (2 * j_14)) (d := j_7) (by omega) (by omega) (by omega)) ?_
          exact J_23 (nI ((2 * j_14) / j_7)) E  H locs ls hP hD hS (lv_sub hl [] rfl)
        · have E := x_pos E c_24
          refine lv_iload_n hx hb dX5_tube_40 rfl (lv_at hl 2 rfl) ?_
          refine lv_iload_n hx hb dX5_tube_41 rfl (lv_at hl 1 rfl) ?_
          refine lv_idiv hx hb dX5_tube_42 (nI_ne0 (n := j_7) (by omega) (by omega)) ?_
          refine x_eqi (pk_div (a := j_14) (d := j_7) (by omega) (by omega) (by omega)) ?_
          refine lv_goto (tgt := 51) hx hb dX5_tube_43 (by decide) ?_
          exact J_23 (nI (j_14 / j_7)) E  H locs ls hP hD hS (lv_sub hl [] rfl)
      · have E := x_pos E c_19
        refine lv_iconst (v := (-1)) hx hb dX5_tube_34 (by decide) ?_
        exact RET (-1) () H locs _ _ (E.symm.trans hO) rfl hP hD hS dX5_tube_35
abbrev rX5_mark : Room := { frames := 1, cells := 0, slots := 0, locals := 25 }
theorem vX5_mark : yX5_mark.cls = RX5 ∧ yX5_mark.cls ≠ "java/lang/invoke/MethodHandle" ∧ yX5_mark.cls ≠ "java/lang/invoke/VarHandle" ∧ (parseMethodDescriptor yX5_mark.desc).map (fun d => d.parameters.length) = some 2 := by decide +kernel
abbrev wX5_mark : List Cond := Cond.code yX5_mark cX5_mark 4 (some .int) :: wsL_law
def F_X5_mark (t_is : Nat → Int32) (t_row : Nat → Int32) (t_traced : Int64) (a1 : Int32) (a2 : Int32) : Int32 × Int64 :=
  x_nm (F_X5_in a1.toInt64 0 5) fun z_1 => if z_1 = 0 then ((-1000000), t_traced) else x_nm (a1.toNatClampNeg) fun j_7 => x_nm (F_X5_in a2.toInt64 0 3) fun z_8 => if z_8 = 0 then ((-1000000), t_traced) else x_nm (a2.toNatClampNeg) fun j_14 => x_nm (α := Int32 × Int64) (if j_7 = 1 then ((t_row j_14) + (t_row (5 + j_14)), (t_traced + 1) + 10) else if j_7 = 4 then ((t_row j_14) + (t_row (5 + j_14)), (t_traced + 1) + 10) else (t_row j_14, t_traced + 1)) fun u_17 => x_nm (α := Int32 × Int64) (if j_7 = 2 then x_nm (F_X5_press t_is t_row 0) fun z_34 => (u_17.1 - z_34, u_17.2 + 100) else if j_7 = 3 then x_nm (F_X5_press t_is t_row 0) fun z_38 => (u_17.1 - z_38, u_17.2 + 100) else (u_17.1, u_17.2)) fun u_20 => x_nm (α := Int32 × Int64) (if j_7 = 3 then (u_20.1 * 2, u_20.2 + 1000) else (u_20.1, u_20.2)) fun u_23 => x_nm (α := Int32 × Int64) (if j_7 = 4 then (u_23.1 - (t_row 4), u_23.2 + 10000) else (u_23.1, u_23.2)) fun u_26 => x_nm (α := Int32 × Int64) (if j_7 = 5 then (u_26.1 + (t_row 9), u_26.2 + 100000) else (u_26.1, u_26.2)) fun u_29 => (u_29.1, u_29.2)
set_option maxHeartbeats 4000000 in
set_option maxRecDepth 100000 in
theorem m_X5_mark (l : Launch) (g : x_G) (tA tA_is tA_row tA_text tA_doings tA_doing tA_isKept tA_best tA_heats tA_orders tA_has tA_salt tA_crumbs : Nat) (t_length : Nat) (t_at : Nat) (t_begin : Nat) (t_told : Int32) (t_items : Int32) (t_when : Int32) (t_most : Int32) (t_mostAt : Int32) (t_hiss : Int32) (t_tests : Nat) (t_traced : Int64) (t_hasSkin : Int32) (t_hasBend : Int32) (t_is : Nat → Int32) (t_row : Nat → Int32) (a1 : Int32) (a2 : Int32) : x_MetI l yX5_mark wX5_mark rX5_mark g [.ref tA, .int a1, .int a2] [(tA, .inr (5, [.int (nI t_length), .ref tA_text, .int (nI t_at), .int (nI t_begin), .int t_told, .ref tA_is, .ref tA_doings, .ref tA_doing, .int t_items, .ref tA_row, .ref tA_isKept, .int t_when, .int t_most, .int t_mostAt, .int t_hiss, .ref tA_best, .ref tA_heats, .ref tA_orders, .ref tA_has, .int (nI t_tests), .ref tA_salt, .ref tA_crumbs, .long t_traced, .int t_hasSkin, .int t_hasBend])), (tA_is, .inl (g.2.1 0, 18, .inl t_is)), (tA_row, .inl (g.2.1 0, 80, .inl t_row))] (fun (r : Int32) (u : Int64) => (r, u) = F_X5_mark t_is t_row t_traced a1 a2) (fun u => [(tA, .inr (5, [.int (nI t_length), .ref tA_text, .int (nI t_at), .int (nI t_begin), .int t_told, .ref tA_is, .ref tA_doings, .ref tA_doing, .int t_items, .ref tA_row, .ref tA_isKept, .int t_when, .int t_most, .int t_mostAt, .int t_hiss, .ref tA_best, .ref tA_heats, .ref tA_orders, .ref tA_has, .int (nI t_tests), .ref tA_salt, .ref tA_crumbs, .long u, .int t_hasSkin, .int t_hasBend])), (tA_is, .inl (g.2.1 0, 18, .inl t_is)), (tA_row, .inl (g.2.1 0, 80, .inl t_row))]) := by
  refine x_startI (cc := cX5_mark) (maxL := 4) (by decide) rfl (Nat.le_of_ble_eq_true rfl) ?_
  intro p e s m args below meth c Q A ls H locs hx hb hml hown hts hK hX hP hD hS hA hl RET
  have hown : s.vm.findClass RX5 = some m.cls := hown
  have hl : lv_has ls 4 [(0, .ref tA), (1, .int a1), (2, .int a2)] := hl
  obtain ⟨o_0, hO⟩ : ∃ z, z = F_X5_mark t_is t_row t_traced a1 a2 := ⟨_, rfl⟩
  have E := hO
  rw [F_X5_mark.eq_1] at E
  refine lv_iload_n hx hb dX5_mark_0 rfl (lv_at hl 1 rfl) ?_
  refine lv_i2l (v := a1.toInt64) hx hb dX5_mark_1 rfl ?_
  refine lv_lconst (v := 0) hx hb dX5_mark_2 (by decide) ?_
  refine lv_ldc2 (v := 5) hx hb hown (hts _ kw_845) dX5_mark_3 ?_
  refine x_callS0 ⟨hx, hb, hml, hown, hts⟩ hK hX hP hD hS hA (m_X5_in l g a1.toInt64 0 5) (va_cwS 3 hts (x_gS kw_129 kw_130 kw_5 kw_131) rfl rfl rfl vX5_inS ⟨Nat.le_of_ble_eq_true rfl, Nat.le_of_ble_eq_true rfl⟩) rfl hl.1 rfl (Nat.le_of_ble_eq_true rfl) dX5_mark_6 ⟨Nat.zero_le _, Nat.zero_le _⟩ (fun z_1 _ H locs hw_2 hP hD hS => ?_)
  obtain ⟨hw_2, b_3⟩ := hw_2
  have E := x_nm_eq E hw_2
  refine lv_if_eq (tgt := 24) hx hb dX5_mark_9 (by decide) (fun c_5 => ?_) (fun c_5 => ?_)
  · have E := x_pos E c_5
    refine lv_ldc (v := (-1000000)) hx hb hown (hts _ kw_846) dX5_mark_24 ?_
    exact RET (-1000000) t_traced H locs _ _ (E.symm.trans hO) rfl hP hD hS dX5_mark_26
  · have E := x_neg E c_5
    obtain ⟨j_7, hj⟩ : ∃ z, z = (a1).toNatClampNeg := ⟨_, rfl⟩
    have r_6_0 := (x_ins (lo := 0) (hi := 5) (by omega) (by omega) (fun q => c_5 (hw_2.trans q)))
    rw [← hj] at r_6_0
    obtain ⟨r_6_0_a, r_6_0_b, e_6_0⟩ := r_6_0
    have E := x_nm_eq E hj
    have hl : lv_has ls 4 [(0, .ref tA), (1, .int (nI j_7)), (2, .int a2)] := by rw [e_6_0] at hl; exact hl
    refine lv_iload_n hx hb dX5_mark_12 rfl (lv_at hl 2 rfl) ?_
    refine lv_i2l (v := a2.toInt64) hx hb dX5_mark_13 rfl ?_
    refine lv_lconst (v := 0) hx hb dX5_mark_14 (by decide) ?_
    refine lv_ldc2 (v := 3) hx hb hown (hts _ kw_483) dX5_mark_15 ?_
    refine x_callS0 ⟨hx, hb, hml, hown, hts⟩ hK hX hP hD hS hA (m_X5_in l g a2.toInt64 0 3) (va_cwS 3 hts (x_gS kw_129 kw_130 kw_5 kw_131) rfl rfl rfl vX5_inS ⟨Nat.le_of_ble_eq_true rfl, Nat.le_of_ble_eq_true rfl⟩) rfl hl.1 rfl (Nat.le_of_ble_eq_true rfl) dX5_mark_18 ⟨Nat.zero_le _, Nat.zero_le _⟩ (fun z_8 _ H locs hw_9 hP hD hS => ?_)
    obtain ⟨hw_9, b_10⟩ := hw_9
    have E := x_nm_eq E hw_9
    refine x_if_neI (tgt := 27) hx hb dX5_mark_21 (by decide) (fun c_12 => ?_) (fun c_12 => ?_)
    · have E := x_neg E c_12
      obtain ⟨j_14, hj⟩ : ∃ z, z = (a2).toNatClampNeg := ⟨_, rfl⟩
      have r_13_0 := (x_ins (lo := 0) (hi := 3) (by omega) (by omega) (fun q => c_12 (hw_9.trans q)))
      rw [← hj] at r_13_0
      obtain ⟨r_13_0_a, r_13_0_b, e_13_0⟩ := r_13_0
      have E := x_nm_eq E hj
      have hl : lv_has ls 4 [(0, .ref tA), (1, .int (nI j_7)), (2, .int (nI j_14))] := by rw [e_13_0] at hl; exact hl
      refine lv_aload_n hx hb dX5_mark_27 rfl (lv_at hl 0 rfl) ?_
      refine va_get (ci := 5) (v := .ref tA_row) (C := RX5) (T := TX5) (N := 25) hx hb hts inlX5 hown hK.1 hP 0 rfl rfl 9 (by decide) (hts _ kw_97) (fun _ h9 => h9) rfl dX5_mark_28 ?_
      refine lv_iload_n hx hb dX5_mark_31 rfl (lv_at hl 2 rfl) ?_
      refine x_ialdN hx hb hK hP 2 j_14 rfl (by omega) (by decide) dX5_mark_32 ?_
      refine lv_istore_n (lv' := [(3, .int (t_row j_14)), (0, .ref tA), (1, .int (nI j_7)), (2, .int (nI j_14))]) hx hb dX5_mark_33 rfl hl (by decide) rfl (fun ls hl => ?_)
      refine lv_aload_n hx hb dX5_mark_34 rfl (lv_at hl 1 rfl) ?_
      refine lv_dup hx hb dX5_mark_35 rfl ?_
      refine va_get (ci := 5) (v := .long t_traced) (C := RX5) (T := TX5) (N := 25) hx hb hts inlX5 hown hK.1 hP 0 rfl rfl 22 (by decide) (hts _ kw_847) (fun _ h9 => h9) rfl dX5_mark_36 ?_
      refine lv_lconst (v := 1) hx hb dX5_mark_39 (by decide) ?_
      refine lv_ladd hx hb dX5_mark_40 ?_
      refine va_put (ci := 5) (v := .long (t_traced + 1)) (ty := .long) (C := RX5) (T := TX5) (N := 25) hx hb hts inlX5 tyX5 tyX5_ok nmX5 hown hK.1 hP hD hS 0 rfl rfl 22 (by decide) (hts _ kw_847) (fun _ h9 => h9) rfl (tyX5_ok 22 (by decide)) rfl rfl (Nat.le_of_ble_eq_true rfl) dX5_mark_41 (fun H locs hP hD hS => ?_)
      have hP : va_P g.1 vwCl [(tA, .inr (5, [.int (nI t_length), .ref tA_text, .int (nI t_at), .int (nI t_begin), .int t_told, .ref tA_is, .ref tA_doings, .ref tA_doing, .int t_items, .ref tA_row, .ref tA_isKept, .int t_when, .int t_most, .int t_mostAt, .int t_hiss, .ref tA_best, .ref tA_heats, .ref tA_orders, .ref tA_has, .int (nI t_tests), .ref tA_salt, .ref tA_crumbs, .long (t_traced + 1), .int t_hasSkin, .int t_hasBend])), (tA_is, .inl (g.2.1 0, 18, .inl t_is)), (tA_row, .inl (g.2.1 0, 80, .inl t_row))] H := hP
      have hD : va_D A [(tA, .inr (5, [.int (nI t_length), .ref tA_text, .int (nI t_at), .int (nI t_begin), .int t_told, .ref tA_is, .ref tA_doings, .ref tA_doing, .int t_items, .ref tA_row, .ref tA_isKept, .int t_when, .int t_most, .int t_mostAt, .int t_hiss, .ref tA_best, .ref tA_heats, .ref tA_orders, .ref tA_has, .int (nI t_tests), .ref tA_salt, .ref tA_crumbs, .long (t_traced + 1), .int t_hasSkin, .int t_hasBend])), (tA_is, .inl (g.2.1 0, 18, .inl t_is)), (tA_row, .inl (g.2.1 0, 80, .inl t_row))] := hD
      refine lv_iload_n hx hb dX5_mark_44 rfl (lv_at hl 2 rfl) ?_
      refine lv_iconst (v := 1) hx hb dX5_mark_45 (by decide) ?_
      obtain ⟨o_17, E_17, E⟩ := x_nm_ex E
      have J_17 : ∀ (l3_15 : Int32) (t_traced_16 : Int64), o_17 = (l3_15, t_traced_16) → ∀ (H : Heap) (locs : List Loc) (ls : Array Slot), va_P g.1 vwCl [(tA, .inr (5, [.int (nI t_length), .ref tA_text, .int (nI t_at), .int (nI t_begin), .int t_told, .ref tA_is, .ref tA_doings, .ref tA_doing, .int t_items, .ref tA_row, .ref tA_isKept, .int t_when, .int t_most, .int t_mostAt, .int t_hiss, .ref tA_best, .ref tA_heats, .ref tA_orders, .ref tA_has, .int (nI t_tests), .ref tA_salt, .ref tA_crumbs, .long t_traced_16, .int t_hasSkin, .int t_hasBend])), (tA_is, .inl (g.2.1 0, 18, .inl t_is)), (tA_row, .inl (g.2.1 0, 80, .inl t_row))] H → va_D A [(tA, .inr (5, [.int (nI t_length), .ref tA_text, .int (nI t_at), .int (nI t_begin), .int t_told, .ref tA_is, .ref tA_doings, .ref tA_doing, .int t_items, .ref tA_row, .ref tA_isKept, .int t_when, .int t_most, .int t_mostAt, .int t_hiss, .ref tA_best, .ref tA_heats, .ref tA_orders, .ref tA_has, .int (nI t_tests), .ref tA_salt, .ref tA_crumbs, .long t_traced_16, .int t_hasSkin, .int t_hasBend])), (tA_is, .inl (g.2.1 0, 18, .inl t_is)), (tA_row, .inl (g.2.1 0, 80, .inl t_row))] → va_S A s.heap H locs → lv_has ls 4 [(0, .ref tA), (1, .int (nI j_7)), (3, .int l3_15)] → W p l e rX5_mark s m args below meth c H locs 0 0 Q (F0 m 77 ls []) := by
        intro l3_15 t_traced_16 hE  H locs ls hP hD hS hl
        try rw [hE] at E
        refine lv_iload_n hx hb dX5_mark_77 rfl (lv_at hl 1 rfl) ?_
        refine lv_iconst (v := 2) hx hb dX5_mark_78 (by decide) ?_
        obtain ⟨o_20, E_20, E⟩ := x_nm_ex E
        have J_20 : ∀ (l3_18 : Int32) (t_traced_19 : Int64), o_20 = (l3_18, t_traced_19) → ∀ (H : Heap) (locs : List Loc) (ls : Array Slot), va_P g.1 vwCl [(tA, .inr (5, [.int (nI t_length), .ref tA_text, .int (nI t_at), .int (nI t_begin), .int t_told, .ref tA_is, .ref tA_doings, .ref tA_doing, .int t_items, .ref tA_row, .ref tA_isKept, .int t_when, .int t_most, .int t_mostAt, .int t_hiss, .ref tA_best, .ref tA_heats, .ref tA_orders, .ref tA_has, .int (nI t_tests), .ref tA_salt, .ref tA_crumbs, .long t_traced_19, .int t_hasSkin, .int t_hasBend])), (tA_is, .inl (g.2.1 0, 18, .inl t_is)), (tA_row, .inl (g.2.1 0, 80, .inl t_row))] H → va_D A [(tA, .inr (5, [.int (nI t_length), .ref tA_text, .int (nI t_at), .int (nI t_begin), .int t_told, .ref tA_is, .ref tA_doings, .ref tA_doing, .int t_items, .ref tA_row, .ref tA_isKept, .int t_when, .int t_most, .int t_mostAt, .int t_hiss, .ref tA_best, .ref tA_heats, .ref tA_orders, .ref tA_has, .int (nI t_tests), .ref tA_salt, .ref tA_crumbs, .long t_traced_19, .int t_hasSkin, .int t_hasBend])), (tA_is, .inl (g.2.1 0, 18, .inl t_is)), (tA_row, .inl (g.2.1 0, 80, .inl t_row))] → va_S A s.heap H locs → lv_has ls 4 [(0, .ref tA), (1, .int (nI j_7)), (3, .int l3_18)] → W p l e rX5_mark s m args below meth c H locs 0 0 Q (F0 m 107 ls []) := by
          intro l3_18 t_traced_19 hE  H locs ls hP hD hS hl
          try rw [hE] at E
          refine lv_iload_n hx hb dX5_mark_107 rfl (lv_at hl 1 rfl) ?_
          refine lv_iconst (v := 3) hx hb dX5_mark_108 (by decide) ?_
          obtain ⟨o_23, E_23, E⟩ := x_nm_ex E
          have J_23 : ∀ (l3_21 : Int32) (t_traced_22 : Int64), o_23 = (l3_21, t_traced_22) → ∀ (H : Heap) (locs : List Loc) (ls : Array Slot), va_P g.1 vwCl [(tA, .inr (5, [.int (nI t_length), .ref tA_text, .int (nI t_at), .int (nI t_begin), .int t_told, .ref tA_is, .ref tA_doings, .ref tA_doing, .int t_items, .ref tA_row, .ref tA_isKept, .int t_when, .int t_most, .int t_mostAt, .int t_hiss, .ref tA_best, .ref tA_heats, .ref tA_orders, .ref tA_has, .int (nI t_tests), .ref tA_salt, .ref tA_crumbs, .long t_traced_22, .int t_hasSkin, .int t_hasBend])), (tA_is, .inl (g.2.1 0, 18, .inl t_is)), (tA_row, .inl (g.2.1 0, 80, .inl t_row))] H → va_D A [(tA, .inr (5, [.int (nI t_length), .ref tA_text, .int (nI t_at), .int (nI t_begin), .int t_told, .ref tA_is, .ref tA_doings, .ref tA_doing, .int t_items, .ref tA_row, .ref tA_isKept, .int t_when, .int t_most, .int t_mostAt, .int t_hiss, .ref tA_best, .ref tA_heats, .ref tA_orders, .ref tA_has, .int (nI t_tests), .ref tA_salt, .ref tA_crumbs, .long t_traced_22, .int t_hasSkin, .int t_hasBend])), (tA_is, .inl (g.2.1 0, 18, .inl t_is)), (tA_row, .inl (g.2.1 0, 80, .inl t_row))] → va_S A s.heap H locs → lv_has ls 4 [(0, .ref tA), (1, .int (nI j_7)), (3, .int l3_21)] → W p l e rX5_mark s m args below meth c H locs 0 0 Q (F0 m 128 ls []) := by
            intro l3_21 t_traced_22 hE  H locs ls hP hD hS hl
            try rw [hE] at E
            refine lv_iload_n hx hb dX5_mark_128 rfl (lv_at hl 1 rfl) ?_
            refine lv_iconst (v := 4) hx hb dX5_mark_129 (by decide) ?_
            obtain ⟨o_26, E_26, E⟩ := x_nm_ex E
            have J_26 : ∀ (l3_24 : Int32) (t_traced_25 : Int64), o_26 = (l3_24, t_traced_25) → ∀ (H : Heap) (locs : List Loc) (ls : Array Slot), va_P g.1 vwCl [(tA, .inr (5, [.int (nI t_length), .ref tA_text, .int (nI t_at), .int (nI t_begin), .int t_told, .ref tA_is, .ref tA_doings, .ref tA_doing, .int t_items, .ref tA_row, .ref tA_isKept, .int t_when, .int t_most, .int t_mostAt, .int t_hiss, .ref tA_best, .ref tA_heats, .ref tA_orders, .ref tA_has, .int (nI t_tests), .ref tA_salt, .ref tA_crumbs, .long t_traced_25, .int t_hasSkin, .int t_hasBend])), (tA_is, .inl (g.2.1 0, 18, .inl t_is)), (tA_row, .inl (g.2.1 0, 80, .inl t_row))] H → va_D A [(tA, .inr (5, [.int (nI t_length), .ref tA_text, .int (nI t_at), .int (nI t_begin), .int t_told, .ref tA_is, .ref tA_doings, .ref tA_doing, .int t_items, .ref tA_row, .ref tA_isKept, .int t_when, .int t_most, .int t_mostAt, .int t_hiss, .ref tA_best, .ref tA_heats, .ref tA_orders, .ref tA_has, .int (nI t_tests), .ref tA_salt, .ref tA_crumbs, .long t_traced_25, .int t_hasSkin, .int t_hasBend])), (tA_is, .inl (g.2.1 0, 18, .inl t_is)), (tA_row, .inl (g.2.1 0, 80, .inl t_row))] → va_S A s.heap H locs → lv_has ls 4 [(0, .ref tA), (1, .int (nI j_7)), (3, .int l3_24)] → W p l e rX5_mark s m args below meth c H locs 0 0 Q (F0 m 154 ls []) := by
              intro l3_24 t_traced_25 hE  H locs ls hP hD hS hl
              try rw [hE] at E
              refine lv_iload_n hx hb dX5_mark_154 rfl (lv_at hl 1 rfl) ?_
              refine lv_iconst (v := 5) hx hb dX5_mark_155 (by decide) ?_
              obtain ⟨o_29, E_29, E⟩ := x_nm_ex E
              have J_29 : ∀ (l3_27 : Int32) (t_traced_28 : Int64), o_29 = (l3_27, t_traced_28) → ∀ (H : Heap) (locs : List Loc) (ls : Array Slot), va_P g.1 vwCl [(tA, .inr (5, [.int (nI t_length), .ref tA_text, .int (nI t_at), .int (nI t_begin), .int t_told, .ref tA_is, .ref tA_doings, .ref tA_doing, .int t_items, .ref tA_row, .ref tA_isKept, .int t_when, .int t_most, .int t_mostAt, .int t_hiss, .ref tA_best, .ref tA_heats, .ref tA_orders, .ref tA_has, .int (nI t_tests), .ref tA_salt, .ref tA_crumbs, .long t_traced_28, .int t_hasSkin, .int t_hasBend])), (tA_is, .inl (g.2.1 0, 18, .inl t_is)), (tA_row, .inl (g.2.1 0, 80, .inl t_row))] H → va_D A [(tA, .inr (5, [.int (nI t_length), .ref tA_text, .int (nI t_at), .int (nI t_begin), .int t_told, .ref tA_is, .ref tA_doings, .ref tA_doing, .int t_items, .ref tA_row, .ref tA_isKept, .int t_when, .int t_most, .int t_mostAt, .int t_hiss, .ref tA_best, .ref tA_heats, .ref tA_orders, .ref tA_has, .int (nI t_tests), .ref tA_salt, .ref tA_crumbs, .long t_traced_28, .int t_hasSkin, .int t_hasBend])), (tA_is, .inl (g.2.1 0, 18, .inl t_is)), (tA_row, .inl (g.2.1 0, 80, .inl t_row))] → va_S A s.heap H locs → lv_has ls 4 [(3, .int l3_27)] → W p l e rX5_mark s m args below meth c H locs 0 0 Q (F0 m 181 ls []) := by
                intro l3_27 t_traced_28 hE  H locs ls hP hD hS hl
                try rw [hE] at E
                refine lv_iload_n hx hb dX5_mark_181 rfl (lv_at hl 0 rfl) ?_
                exact RET l3_27 t_traced_28 H locs _ _ (E.symm.trans hO) rfl hP hD hS dX5_mark_182
              have E := E_29
              refine x_icmp_ne (a := j_7) (b := 5) (tgt := 181) hx hb (by omega) (by omega) dX5_mark_156 (by decide) (fun c_30 => ?_) (fun c_30 => ?_)
              · have E := x_neg E c_30
                exact J_29 l3_24 t_traced_25 E  H locs ls hP hD hS (lv_sub hl [2] rfl)
              · have E := x_pos E c_30
                refine lv_iload_n hx hb dX5_mark_159 rfl (lv_at hl 2 rfl) ?_
                refine lv_aload_n hx hb dX5_mark_160 rfl (lv_at hl 0 rfl) ?_
                refine va_get (ci := 5) (v := .ref tA_row) (C := RX5) (T := TX5) (N := 25) hx hb hts inlX5 hown hK.1 hP 0 rfl rfl 9 (by decide) (hts _ kw_97) (fun _ h9 => h9) rfl dX5_mark_161 ?_
                refine lv_bipush (v := 9) hx hb dX5_mark_164 (by decide) ?_
                refine x_ialdN hx hb hK hP 2 9 rfl (by omega) (by decide) dX5_mark_166 ?_
                refine lv_iadd hx hb dX5_mark_167 ?_
                refine lv_istore_n (lv' := [(3, .int (l3_24 + (t_row 9))), (0, .ref tA), (1, .int (nI j_7))]) hx hb dX5_mark_168 rfl hl (by decide) rfl (fun ls hl => ?_)
                refine lv_aload_n hx hb dX5_mark_169 rfl (lv_at hl 1 rfl) ?_
                refine lv_dup hx hb dX5_mark_170 rfl ?_
                refine va_get (ci := 5) (v := .long t_traced_25) (C := RX5) (T := TX5) (N := 25) hx hb hts inlX5 hown hK.1 hP 0 rfl rfl 22 (by decide) (hts _ kw_847) (fun _ h9 => h9) rfl dX5_mark_171 ?_
                refine lv_ldc2 (v := 100000) hx hb hown (hts _ kw_850) dX5_mark_174 ?_
                refine lv_ladd hx hb dX5_mark_177 ?_
                refine va_put (ci := 5) (v := .long (t_traced_25 + 100000)) (ty := .long) (C := RX5) (T := TX5) (N := 25) hx hb hts inlX5 tyX5 tyX5_ok nmX5 hown hK.1 hP hD hS 0 rfl rfl 22 (by decide) (hts _ kw_847) (fun _ h9 => h9) rfl (tyX5_ok 22 (by decide)) rfl rfl (Nat.le_of_ble_eq_true rfl) dX5_mark_178 (fun H locs hP hD hS => ?_)
                have hP : va_P g.1 vwCl [(tA, .inr (5, [.int (nI t_length), .ref tA_text, .int (nI t_at), .int (nI t_begin), .int t_told, .ref tA_is, .ref tA_doings, .ref tA_doing, .int t_items, .ref tA_row, .ref tA_isKept, .int t_when, .int t_most, .int t_mostAt, .int t_hiss, .ref tA_best, .ref tA_heats, .ref tA_orders, .ref tA_has, .int (nI t_tests), .ref tA_salt, .ref tA_crumbs, .long (t_traced_25 + 100000), .int t_hasSkin, .int t_hasBend])), (tA_is, .inl (g.2.1 0, 18, .inl t_is)), (tA_row, .inl (g.2.1 0, 80, .inl t_row))] H := hP
                have hD : va_D A [(tA, .inr (5, [.int (nI t_length), .ref tA_text, .int (nI t_at), .int (nI t_begin), .int t_told, .ref tA_is, .ref tA_doings, .ref tA_doing, .int t_items, .ref tA_row, .ref tA_isKept, .int t_when, .int t_most, .int t_mostAt, .int t_hiss, .ref tA_best, .ref tA_heats, .ref tA_orders, .ref tA_has, .int (nI t_tests), .ref tA_salt, .ref tA_crumbs, .long (t_traced_25 + 100000), .int t_hasSkin, .int t_hasBend])), (tA_is, .inl (g.2.1 0, 18, .inl t_is)), (tA_row, .inl (g.2.1 0, 80, .inl t_row))] := hD
                exact J_29 (l3_24 + (t_row 9)) (t_traced_25 + 100000) E  H locs ls hP hD hS (lv_sub hl [0] rfl)
            have E := E_26
            refine x_icmp_ne (a := j_7) (b := 4) (tgt := 154) hx hb (by omega) (by omega) dX5_mark_130 (by decide) (fun c_31 => ?_) (fun c_31 => ?_)
            · have E := x_neg E c_31
              exact J_26 l3_21 t_traced_22 E  H locs ls hP hD hS (lv_sub hl [0, 1, 2] rfl)
            · have E := x_pos E c_31
              refine lv_iload_n hx hb dX5_mark_133 rfl (lv_at hl 2 rfl) ?_
              refine lv_aload_n hx hb dX5_mark_134 rfl (lv_at hl 0 rfl) ?_
              refine va_get (ci := 5) (v := .ref tA_row) (C := RX5) (T := TX5) (N := 25) hx hb hts inlX5 hown hK.1 hP 0 rfl rfl 9 (by decide) (hts _ kw_97) (fun _ h9 => h9) rfl dX5_mark_135 ?_
              refine lv_iconst (v := 4) hx hb dX5_mark_138 (by decide) ?_
              refine x_ialdN hx hb hK hP 2 4 rfl (by omega) (by decide) dX5_mark_139 ?_
              refine lv_isub hx hb dX5_mark_140 ?_
              refine lv_istore_n (lv' := [(3, .int (l3_21 - (t_row 4))), (0, .ref tA), (1, .int (nI j_7))]) hx hb dX5_mark_141 rfl hl (by decide) rfl (fun ls hl => ?_)
              refine lv_aload_n hx hb dX5_mark_142 rfl (lv_at hl 1 rfl) ?_
              refine lv_dup hx hb dX5_mark_143 rfl ?_
              refine va_get (ci := 5) (v := .long t_traced_22) (C := RX5) (T := TX5) (N := 25) hx hb hts inlX5 hown hK.1 hP 0 rfl rfl 22 (by decide) (hts _ kw_847) (fun _ h9 => h9) rfl dX5_mark_144 ?_
              refine lv_ldc2 (v := 10000) hx hb hown (hts _ kw_849) dX5_mark_147 ?_
              refine lv_ladd hx hb dX5_mark_150 ?_
              refine va_put (ci := 5) (v := .long (t_traced_22 + 10000)) (ty := .long) (C := RX5) (T := TX5) (N := 25) hx hb hts inlX5 tyX5 tyX5_ok nmX5 hown hK.1 hP hD hS 0 rfl rfl 22 (by decide) (hts _ kw_847) (fun _ h9 => h9) rfl (tyX5_ok 22 (by decide)) rfl rfl (Nat.le_of_ble_eq_true rfl) dX5_mark_151 (fun H locs hP hD hS => ?_)
              have hP : va_P g.1 vwCl [(tA, .inr (5, [.int (nI t_length), .ref tA_text, .int (nI t_at), .int (nI t_begin), .int t_told, .ref tA_is, .ref tA_doings, .ref tA_doing, .int t_items, .ref tA_row, .ref tA_isKept, .int t_when, .int t_most, .int t_mostAt, .int t_hiss, .ref tA_best, .ref tA_heats, .ref tA_orders, .ref tA_has, .int (nI t_tests), .ref tA_salt, .ref tA_crumbs, .long (t_traced_22 + 10000), .int t_hasSkin, .int t_hasBend])), (tA_is, .inl (g.2.1 0, 18, .inl t_is)), (tA_row, .inl (g.2.1 0, 80, .inl t_row))] H := hP
              have hD : va_D A [(tA, .inr (5, [.int (nI t_length), .ref tA_text, .int (nI t_at), .int (nI t_begin), .int t_told, .ref tA_is, .ref tA_doings, .ref tA_doing, .int t_items, .ref tA_row, .ref tA_isKept, .int t_when, .int t_most, .int t_mostAt, .int t_hiss, .ref tA_best, .ref tA_heats, .ref tA_orders, .ref tA_has, .int (nI t_tests), .ref tA_salt, .ref tA_crumbs, .long (t_traced_22 + 10000), .int t_hasSkin, .int t_hasBend])), (tA_is, .inl (g.2.1 0, 18, .inl t_is)), (tA_row, .inl (g.2.1 0, 80, .inl t_row))] := hD
              exact J_26 (l3_21 - (t_row 4)) (t_traced_22 + 10000) E  H locs ls hP hD hS (lv_sub hl [1, 2, 0] rfl)
          have E := E_23
          refine x_icmp_ne (a := j_7) (b := 3) (tgt := 128) hx hb (by omega) (by omega) dX5_mark_109 (by decide) (fun c_32 => ?_) (fun c_32 => ?_)
          · have E := x_neg E c_32
            exact J_23 l3_18 t_traced_19 E  H locs ls hP hD hS (lv_sub hl [0, 1, 2] rfl)
          · have E := x_pos E c_32
            refine lv_iload_n hx hb dX5_mark_112 rfl (lv_at hl 2 rfl) ?_
            refine lv_iconst (v := 2) hx hb dX5_mark_113 (by decide) ?_
            refine lv_imul hx hb dX5_mark_114 ?_
            refine lv_istore_n (lv' := [(3, .int (l3_18 * 2)), (0, .ref tA), (1, .int (nI j_7))]) hx hb dX5_mark_115 rfl hl (by decide) rfl (fun ls hl => ?_)
            refine lv_aload_n hx hb dX5_mark_116 rfl (lv_at hl 1 rfl) ?_
            refine lv_dup hx hb dX5_mark_117 rfl ?_
            refine va_get (ci := 5) (v := .long t_traced_19) (C := RX5) (T := TX5) (N := 25) hx hb hts inlX5 hown hK.1 hP 0 rfl rfl 22 (by decide) (hts _ kw_847) (fun _ h9 => h9) rfl dX5_mark_118 ?_
            refine lv_ldc2 (v := 1000) hx hb hown (hts _ kw_848) dX5_mark_121 ?_
            refine lv_ladd hx hb dX5_mark_124 ?_
            refine va_put (ci := 5) (v := .long (t_traced_19 + 1000)) (ty := .long) (C := RX5) (T := TX5) (N := 25) hx hb hts inlX5 tyX5 tyX5_ok nmX5 hown hK.1 hP hD hS 0 rfl rfl 22 (by decide) (hts _ kw_847) (fun _ h9 => h9) rfl (tyX5_ok 22 (by decide)) rfl rfl (Nat.le_of_ble_eq_true rfl) dX5_mark_125 (fun H locs hP hD hS => ?_)
            have hP : va_P g.1 vwCl [(tA, .inr (5, [.int (nI t_length), .ref tA_text, .int (nI t_at), .int (nI t_begin), .int t_told, .ref tA_is, .ref tA_doings, .ref tA_doing, .int t_items, .ref tA_row, .ref tA_isKept, .int t_when, .int t_most, .int t_mostAt, .int t_hiss, .ref tA_best, .ref tA_heats, .ref tA_orders, .ref tA_has, .int (nI t_tests), .ref tA_salt, .ref tA_crumbs, .long (t_traced_19 + 1000), .int t_hasSkin, .int t_hasBend])), (tA_is, .inl (g.2.1 0, 18, .inl t_is)), (tA_row, .inl (g.2.1 0, 80, .inl t_row))] H := hP
            have hD : va_D A [(tA, .inr (5, [.int (nI t_length), .ref tA_text, .int (nI t_at), .int (nI t_begin), .int t_told, .ref tA_is, .ref tA_doings, .ref tA_doing, .int t_items, .ref tA_row, .ref tA_isKept, .int t_when, .int t_most, .int t_mostAt, .int t_hiss, .ref tA_best, .ref tA_heats, .ref tA_orders, .ref tA_has, .int (nI t_tests), .ref tA_salt, .ref tA_crumbs, .long (t_traced_19 + 1000), .int t_hasSkin, .int t_hasBend])), (tA_is, .inl (g.2.1 0, 18, .inl t_is)), (tA_row, .inl (g.2.1 0, 80, .inl t_row))] := hD
            exact J_23 (l3_18 * 2) (t_traced_19 + 1000) E  H locs ls hP hD hS (lv_sub hl [1, 2, 0] rfl)
        have E := E_20
        refine x_icmp_eq (a := j_7) (b := 2) (tgt := 87) hx hb (by omega) (by omega) dX5_mark_79 (by decide) (fun c_33 => ?_) (fun c_33 => ?_)
        · have E := x_pos E c_33
          refine lv_iload_n hx hb dX5_mark_87 rfl (lv_at hl 2 rfl) ?_
          refine lv_aload_n hx hb dX5_mark_88 rfl (lv_at hl 0 rfl) ?_
          refine lv_iconst (v := 0) hx hb dX5_mark_89 (by decide) ?_
          refine x_callVi (w2 := fun u => [(tA, .inr (5, [.int (nI t_length), .ref tA_text, .int (nI t_at), .int (nI t_begin), .int t_told, .ref tA_is, .ref tA_doings, .ref tA_doing, .int t_items, .ref tA_row, .ref tA_isKept, .int t_when, .int t_most, .int t_mostAt, .int t_hiss, .ref tA_best, .ref tA_heats, .ref tA_orders, .ref tA_has, .int (nI t_tests), .ref tA_salt, .ref tA_crumbs, .long t_traced_16, .int t_hasSkin, .int t_hasBend])), (tA_is, .inl (g.2.1 0, 18, .inl t_is)), (tA_row, .inl (g.2.1 0, 80, .inl t_row))]) (wr := []) [0, 1, 2] [] [0, 1, 2] 0 5 ⟨hx, hb, hml, hown, hts⟩ hK hX hP hD hS hA (m_X5_press l g tA tA_is tA_row tA_text tA_doings tA_doing tA_isKept tA_best tA_heats tA_orders tA_has tA_salt tA_crumbs t_length t_at t_begin t_told t_items t_when t_most t_mostAt t_hiss t_tests t_traced_16 t_hasSkin t_hasBend t_is t_row 0 (by first | assumption | omega | exact x_e8 (by assumption) (by assumption))) (cwV 1 hts (x_gV kw_448 kw_449 kw_450 kw_5 kw_451) rfl rfl rfl vX5_press ⟨Nat.le_of_ble_eq_true rfl, Nat.le_of_ble_eq_true rfl⟩) rfl rfl rfl rfl rfl rfl rfl (by decide) (fun _ => rfl) rfl rfl hl.1 rfl (Nat.le_of_ble_eq_true rfl) dX5_mark_90 ⟨Nat.zero_le _, Nat.zero_le _⟩ (fun z_34 _ H locs hw_35 hP hD hS => ?_)
          have E := x_nm_eq E hw_35
          refine lv_isub hx hb dX5_mark_93 ?_
          refine lv_istore_n (lv' := [(3, .int (l3_15 - z_34)), (0, .ref tA), (1, .int (nI j_7))]) hx hb dX5_mark_94 rfl hl (by decide) rfl (fun ls hl => ?_)
          refine lv_aload_n hx hb dX5_mark_95 rfl (lv_at hl 1 rfl) ?_
          refine lv_dup hx hb dX5_mark_96 rfl ?_
          refine va_get (ci := 5) (v := .long t_traced_16) (C := RX5) (T := TX5) (N := 25) hx hb hts inlX5 hown hK.1 hP 0 rfl rfl 22 (by decide) (hts _ kw_847) (fun _ h9 => h9) rfl dX5_mark_97 ?_
          refine lv_ldc2 (v := 100) hx hb hown (hts _ kw_469) dX5_mark_100 ?_
          refine lv_ladd hx hb dX5_mark_103 ?_
          refine va_put (ci := 5) (v := .long (t_traced_16 + 100)) (ty := .long) (C := RX5) (T := TX5) (N := 25) hx hb hts inlX5 tyX5 tyX5_ok nmX5 hown hK.1 hP hD hS 0 rfl rfl 22 (by decide) (hts _ kw_847) (fun _ h9 => h9) rfl (tyX5_ok 22 (by decide)) rfl rfl (Nat.le_of_ble_eq_true rfl) dX5_mark_104 (fun H locs hP hD hS => ?_)
          have hP : va_P g.1 vwCl [(tA, .inr (5, [.int (nI t_length), .ref tA_text, .int (nI t_at), .int (nI t_begin), .int t_told, .ref tA_is, .ref tA_doings, .ref tA_doing, .int t_items, .ref tA_row, .ref tA_isKept, .int t_when, .int t_most, .int t_mostAt, .int t_hiss, .ref tA_best, .ref tA_heats, .ref tA_orders, .ref tA_has, .int (nI t_tests), .ref tA_salt, .ref tA_crumbs, .long (t_traced_16 + 100), .int t_hasSkin, .int t_hasBend])), (tA_is, .inl (g.2.1 0, 18, .inl t_is)), (tA_row, .inl (g.2.1 0, 80, .inl t_row))] H := hP
          have hD : va_D A [(tA, .inr (5, [.int (nI t_length), .ref tA_text, .int (nI t_at), .int (nI t_begin), .int t_told, .ref tA_is, .ref tA_doings, .ref tA_doing, .int t_items, .ref tA_row, .ref tA_isKept, .int t_when, .int t_most, .int t_mostAt, .int t_hiss, .ref tA_best, .ref tA_heats, .ref tA_orders, .ref tA_has, .int (nI t_tests), .ref tA_salt, .ref tA_crumbs, .long (t_traced_16 + 100), .int t_hasSkin, .int t_hasBend])), (tA_is, .inl (g.2.1 0, 18, .inl t_is)), (tA_row, .inl (g.2.1 0, 80, .inl t_row))] := hD
          exact J_20 (l3_15 - z_34) (t_traced_16 + 100) E  H locs ls hP hD hS (lv_sub hl [1, 2, 0] rfl)
        · have E := x_neg E c_33
          refine lv_iload_n hx hb dX5_mark_82 rfl (lv_at hl 1 rfl) ?_
          refine lv_iconst (v := 3) hx hb dX5_mark_83 (by decide) ?_
          refine x_icmp_ne (a := j_7) (b := 3) (tgt := 107) hx hb (by omega) (by omega) dX5_mark_84 (by decide) (fun c_37 => ?_) (fun c_37 => ?_)
          · have E := x_neg E c_37
            exact J_20 l3_15 t_traced_16 E  H locs ls hP hD hS (lv_sub hl [0, 1, 2] rfl)
          · have E := x_pos E c_37
            refine lv_iload_n hx hb dX5_mark_87 rfl (lv_at hl 2 rfl) ?_
            refine lv_aload_n hx hb dX5_mark_88 rfl (lv_at hl 0 rfl) ?_
            refine lv_iconst (v := 0) hx hb dX5_mark_89 (by decide) ?_
            refine x_callVi (w2 := fun u => [(tA, .inr (5, [.int (nI t_length), .ref tA_text, .int (nI t_at), .int (nI t_begin), .int t_told, .ref tA_is, .ref tA_doings, .ref tA_doing, .int t_items, .ref tA_row, .ref tA_isKept, .int t_when, .int t_most, .int t_mostAt, .int t_hiss, .ref tA_best, .ref tA_heats, .ref tA_orders, .ref tA_has, .int (nI t_tests), .ref tA_salt, .ref tA_crumbs, .long t_traced_16, .int t_hasSkin, .int t_hasBend])), (tA_is, .inl (g.2.1 0, 18, .inl t_is)), (tA_row, .inl (g.2.1 0, 80, .inl t_row))]) (wr := []) [0, 1, 2] [] [0, 1, 2] 0 5 ⟨hx, hb, hml, hown, hts⟩ hK hX hP hD hS hA (m_X5_press l g tA tA_is tA_row tA_text tA_doings tA_doing tA_isKept tA_best tA_heats tA_orders tA_has tA_salt tA_crumbs t_length t_at t_begin t_told t_items t_when t_most t_mostAt t_hiss t_tests t_traced_16 t_hasSkin t_hasBend t_is t_row 0 (by first | assumption | omega | exact x_e8 (by assumption) (by assumption))) (cwV 1 hts (x_gV kw_448 kw_449 kw_450 kw_5 kw_451) rfl rfl rfl vX5_press ⟨Nat.le_of_ble_eq_true rfl, Nat.le_of_ble_eq_true rfl⟩) rfl rfl rfl rfl rfl rfl rfl (by decide) (fun _ => rfl) rfl rfl hl.1 rfl (Nat.le_of_ble_eq_true rfl) dX5_mark_90 ⟨Nat.zero_le _, Nat.zero_le _⟩ (fun z_38 _ H locs hw_39 hP hD hS => ?_)
            have E := x_nm_eq E hw_39
            refine lv_isub hx hb dX5_mark_93 ?_
            refine lv_istore_n (lv' := [(3, .int (l3_15 - z_38)), (0, .ref tA), (1, .int (nI j_7))]) hx hb dX5_mark_94 rfl hl (by decide) rfl (fun ls hl => ?_)
            refine lv_aload_n hx hb dX5_mark_95 rfl (lv_at hl 1 rfl) ?_
            refine lv_dup hx hb dX5_mark_96 rfl ?_
            refine va_get (ci := 5) (v := .long t_traced_16) (C := RX5) (T := TX5) (N := 25) hx hb hts inlX5 hown hK.1 hP 0 rfl rfl 22 (by decide) (hts _ kw_847) (fun _ h9 => h9) rfl dX5_mark_97 ?_
            refine lv_ldc2 (v := 100) hx hb hown (hts _ kw_469) dX5_mark_100 ?_
            refine lv_ladd hx hb dX5_mark_103 ?_
            refine va_put (ci := 5) (v := .long (t_traced_16 + 100)) (ty := .long) (C := RX5) (T := TX5) (N := 25) hx hb hts inlX5 tyX5 tyX5_ok nmX5 hown hK.1 hP hD hS 0 rfl rfl 22 (by decide) (hts _ kw_847) (fun _ h9 => h9) rfl (tyX5_ok 22 (by decide)) rfl rfl (Nat.le_of_ble_eq_true rfl) dX5_mark_104 (fun H locs hP hD hS => ?_)
            have hP : va_P g.1 vwCl [(tA, .inr (5, [.int (nI t_length), .ref tA_text, .int (nI t_at), .int (nI t_begin), .int t_told, .ref tA_is, .ref tA_doings, .ref tA_doing, .int t_items, .ref tA_row, .ref tA_isKept, .int t_when, .int t_most, .int t_mostAt, .int t_hiss, .ref tA_best, .ref tA_heats, .ref tA_orders, .ref tA_has, .int (nI t_tests), .ref tA_salt, .ref tA_crumbs, .long (t_traced_16 + 100), .int t_hasSkin, .int t_hasBend])), (tA_is, .inl (g.2.1 0, 18, .inl t_is)), (tA_row, .inl (g.2.1 0, 80, .inl t_row))] H := hP
            have hD : va_D A [(tA, .inr (5, [.int (nI t_length), .ref tA_text, .int (nI t_at), .int (nI t_begin), .int t_told, .ref tA_is, .ref tA_doings, .ref tA_doing, .int t_items, .ref tA_row, .ref tA_isKept, .int t_when, .int t_most, .int t_mostAt, .int t_hiss, .ref tA_best, .ref tA_heats, .ref tA_orders, .ref tA_has, .int (nI t_tests), .ref tA_salt, .ref tA_crumbs, .long (t_traced_16 + 100), .int t_hasSkin, .int t_hasBend])), (tA_is, .inl (g.2.1 0, 18, .inl t_is)), (tA_row, .inl (g.2.1 0, 80, .inl t_row))] := hD
            exact J_20 (l3_15 - z_38) (t_traced_16 + 100) E  H locs ls hP hD hS (lv_sub hl [1, 2, 0] rfl)
      have E := E_17
      refine x_icmp_eq (a := j_7) (b := 1) (tgt := 54) hx hb (by omega) (by omega) dX5_mark_46 (by decide) (fun c_41 => ?_) (fun c_41 => ?_)
      · have E := x_pos E c_41
        refine lv_iload_n hx hb dX5_mark_54 rfl (lv_at hl 0 rfl) ?_
        refine lv_aload_n hx hb dX5_mark_55 rfl (lv_at hl 1 rfl) ?_
        refine va_get (ci := 5) (v := .ref tA_row) (C := RX5) (T := TX5) (N := 25) hx hb hts inlX5 hown hK.1 hP 0 rfl rfl 9 (by decide) (hts _ kw_97) (fun _ h9 => h9) rfl dX5_mark_56 ?_
        refine lv_iconst (v := 5) hx hb dX5_mark_59 (by decide) ?_
        refine lv_iload_n hx hb dX5_mark_60 rfl (lv_at hl 3 rfl) ?_
        refine lv_iadd hx hb dX5_mark_61 ?_
        refine x_eqi (nI_add 5 j_14) ?_
        refine x_ialdN hx hb hK hP 2 (5 + j_14) rfl (by omega) (by decide) dX5_mark_62 ?_
        refine lv_iadd hx hb dX5_mark_63 ?_
        refine lv_istore_n (lv' := [(3, .int ((t_row j_14) + (t_row (5 + j_14)))), (0, .ref tA), (1, .int (nI j_7)), (2, .int (nI j_14))]) hx hb dX5_mark_64 rfl hl (by decide) rfl (fun ls hl => ?_)
        refine lv_aload_n hx hb dX5_mark_65 rfl (lv_at hl 1 rfl) ?_
        refine lv_dup hx hb dX5_mark_66 rfl ?_
        refine va_get (ci := 5) (v := .long (t_traced + 1)) (C := RX5) (T := TX5) (N := 25) hx hb hts inlX5 hown hK.1 hP 0 rfl rfl 22 (by decide) (hts _ kw_847) (fun _ h9 => h9) rfl dX5_mark_67 ?_
        refine lv_ldc2 (v := 10) hx hb hown (hts _ kw_359) dX5_mark_70 ?_
        refine lv_ladd hx hb dX5_mark_73 ?_
        refine va_put (ci := 5) (v := .long ((t_traced + 1) + 10)) (ty := .long) (C := RX5) (T := TX5) (N := 25) hx hb hts inlX5 tyX5 tyX5_ok nmX5 hown hK.1 hP hD hS 0 rfl rfl 22 (by decide) (hts _ kw_847) (fun _ h9 => h9) rfl (tyX5_ok 22 (by decide)) rfl rfl (Nat.le_of_ble_eq_true rfl) dX5_mark_74 (fun H locs hP hD hS => ?_)
        have hP : va_P g.1 vwCl [(tA, .inr (5, [.int (nI t_length), .ref tA_text, .int (nI t_at), .int (nI t_begin), .int t_told, .ref tA_is, .ref tA_doings, .ref tA_doing, .int t_items, .ref tA_row, .ref tA_isKept, .int t_when, .int t_most, .int t_mostAt, .int t_hiss, .ref tA_best, .ref tA_heats, .ref tA_orders, .ref tA_has, .int (nI t_tests), .ref tA_salt, .ref tA_crumbs, .long ((t_traced + 1) + 10), .int t_hasSkin, .int t_hasBend])), (tA_is, .inl (g.2.1 0, 18, .inl t_is)), (tA_row, .inl (g.2.1 0, 80, .inl t_row))] H := hP
        have hD : va_D A [(tA, .inr (5, [.int (nI t_length), .ref tA_text, .int (nI t_at), .int (nI t_begin), .int t_told, .ref tA_is, .ref tA_doings, .ref tA_doing, .int t_items, .ref tA_row, .ref tA_isKept, .int t_when, .int t_most, .int t_mostAt, .int t_hiss, .ref tA_best, .ref tA_heats, .ref tA_orders, .ref tA_has, .int (nI t_tests), .ref tA_salt, .ref tA_crumbs, .long ((t_traced + 1) + 10), .int t_hasSkin, .int t_hasBend])), (tA_is, .inl (g.2.1 0, 18, .inl t_is)), (tA_row, .inl (g.2.1 0, 80, .inl t_row))] := hD
        exact J_17 ((t_row j_14) + (t_row (5 + j_14))) ((t_traced + 1) + 10) E  H locs ls hP hD hS (lv_sub hl [1, 2, 0] rfl)
      · have E := x_neg E c_41
        refine lv_iload_n hx hb dX5_mark_49 rfl (lv_at hl 2 rfl) ?_
        refine lv_iconst (v := 4) hx hb dX5_mark_50 (by decide) ?_
        refine x_icmp_ne (a := j_7) (b := 4) (tgt := 77) hx hb (by omega) (by omega) dX5_mark_51 (by decide) (fun c_42 => ?_) (fun c_42 => ?_)
        · have E := x_neg E c_42
          exact J_17 (t_row j_14) (t_traced + 1) E  H locs ls hP hD hS (lv_sub hl [1, 2, 0] rfl)
        · have E := x_pos E c_42
          refine lv_iload_n hx hb dX5_mark_54 rfl (lv_at hl 0 rfl) ?_
          refine lv_aload_n hx hb dX5_mark_55 rfl (lv_at hl 1 rfl) ?_
          refine va_get (ci := 5) (v := .ref tA_row) (C := RX5) (T := TX5) (N := 25) hx hb hts inlX5 hown hK.1 hP 0 rfl rfl 9 (by decide) (hts _ kw_97) (fun _ h9 => h9) rfl dX5_mark_56 ?_
          refine lv_iconst (v := 5) hx hb dX5_mark_59 (by decide) ?_
          refine lv_iload_n hx hb dX5_mark_60 rfl (lv_at hl 3 rfl) ?_
          refine lv_iadd hx hb dX5_mark_61 ?_
          refine x_eqi (nI_add 5 j_14) ?_
          refine x_ialdN hx hb hK hP 2 (5 + j_14) rfl (by omega) (by decide) dX5_mark_62 ?_
          refine lv_iadd hx hb dX5_mark_63 ?_
          refine lv_istore_n (lv' := [(3, .int ((t_row j_14) + (t_row (5 + j_14)))), (0, .ref tA), (1, .int (nI j_7)), (2, .int (nI j_14))]) hx hb dX5_mark_64 rfl hl (by decide) rfl (fun ls hl => ?_)
          refine lv_aload_n hx hb dX5_mark_65 rfl (lv_at hl 1 rfl) ?_
          refine lv_dup hx hb dX5_mark_66 rfl ?_
          refine va_get (ci := 5) (v := .long (t_traced + 1)) (C := RX5) (T := TX5) (N := 25) hx hb hts inlX5 hown hK.1 hP 0 rfl rfl 22 (by decide) (hts _ kw_847) (fun _ h9 => h9) rfl dX5_mark_67 ?_
          refine lv_ldc2 (v := 10) hx hb hown (hts _ kw_359) dX5_mark_70 ?_
          refine lv_ladd hx hb dX5_mark_73 ?_
          refine va_put (ci := 5) (v := .long ((t_traced + 1) + 10)) (ty := .long) (C := RX5) (T := TX5) (N := 25) hx hb hts inlX5 tyX5 tyX5_ok nmX5 hown hK.1 hP hD hS 0 rfl rfl 22 (by decide) (hts _ kw_847) (fun _ h9 => h9) rfl (tyX5_ok 22 (by decide)) rfl rfl (Nat.le_of_ble_eq_true rfl) dX5_mark_74 (fun H locs hP hD hS => ?_)
          have hP : va_P g.1 vwCl [(tA, .inr (5, [.int (nI t_length), .ref tA_text, .int (nI t_at), .int (nI t_begin), .int t_told, .ref tA_is, .ref tA_doings, .ref tA_doing, .int t_items, .ref tA_row, .ref tA_isKept, .int t_when, .int t_most, .int t_mostAt, .int t_hiss, .ref tA_best, .ref tA_heats, .ref tA_orders, .ref tA_has, .int (nI t_tests), .ref tA_salt, .ref tA_crumbs, .long ((t_traced + 1) + 10), .int t_hasSkin, .int t_hasBend])), (tA_is, .inl (g.2.1 0, 18, .inl t_is)), (tA_row, .inl (g.2.1 0, 80, .inl t_row))] H := hP
          have hD : va_D A [(tA, .inr (5, [.int (nI t_length), .ref tA_text, .int (nI t_at), .int (nI t_begin), .int t_told, .ref tA_is, .ref tA_doings, .ref tA_doing, .int t_items, .ref tA_row, .ref tA_isKept, .int t_when, .int t_most, .int t_mostAt, .int t_hiss, .ref tA_best, .ref tA_heats, .ref tA_orders, .ref tA_has, .int (nI t_tests), .ref tA_salt, .ref tA_crumbs, .long ((t_traced + 1) + 10), .int t_hasSkin, .int t_hasBend])), (tA_is, .inl (g.2.1 0, 18, .inl t_is)), (tA_row, .inl (g.2.1 0, 80, .inl t_row))] := hD
          exact J_17 ((t_row j_14) + (t_row (5 + j_14))) ((t_traced + 1) + 10) E  H locs ls hP hD hS (lv_sub hl [1, 2, 0] rfl)
    · have E := x_pos E c_12
      refine lv_ldc (v := (-1000000)) hx hb hown (hts _ kw_846) dX5_mark_24 ?_
      exact RET (-1000000) t_traced H locs _ _ (E.symm.trans hO) rfl hP hD hS dX5_mark_26
abbrev rX5_isImage : Room := { frames := 1, cells := 0, slots := 0, locals := 25 }
theorem vX5_isImageS : yX5_isImage.cls ≠ "java/lang/invoke/MethodHandle" ∧ yX5_isImage.cls ≠ "java/lang/invoke/VarHandle" ∧ (parseMethodDescriptor yX5_isImage.desc).map (fun d => d.parameters.length) = some 1 := by decide +kernel
abbrev wX5_isImage : List Cond := Cond.code yX5_isImage cX5_isImage 1 (some .boolean) :: wsL_law
def F_X5_isImage (a1 : Int32) : Int32 :=
  x_nm (F_X5_in a1.toInt64 0 1) fun z_1 => z_1
set_option maxHeartbeats 4000000 in
set_option maxRecDepth 100000 in
theorem m_X5_isImage (l : Launch) (g : x_G) (a1 : Int32) : x_MetI l yX5_isImage wX5_isImage rX5_isImage g [.int a1] [] (fun (r : Int32) (u : Unit) => (r = F_X5_isImage a1) ∧ (r = 0 ∨ r = 1)) (fun _ => []) := by
  refine x_startI (cc := cX5_isImage) (maxL := 1) (by decide) rfl (Nat.le_of_ble_eq_true rfl) ?_
  intro p e s m args below meth c Q A ls H locs hx hb hml hown hts hK hX hP hD hS hA hl RET
  have hown : s.vm.findClass RX5 = some m.cls := hown
  have hl : lv_has ls 1 [(0, .int a1)] := hl
  obtain ⟨o_0, hO⟩ : ∃ z, z = F_X5_isImage a1 := ⟨_, rfl⟩
  have E := hO
  rw [F_X5_isImage.eq_1] at E
  refine lv_iload_n hx hb dX5_isImage_0 rfl (lv_at hl 0 rfl) ?_
  refine lv_i2l (v := a1.toInt64) hx hb dX5_isImage_1 rfl ?_
  refine lv_lconst (v := 0) hx hb dX5_isImage_2 (by decide) ?_
  refine lv_lconst (v := 1) hx hb dX5_isImage_3 (by decide) ?_
  refine x_callS0 ⟨hx, hb, hml, hown, hts⟩ hK hX hP hD hS hA (m_X5_in l g a1.toInt64 0 1) (va_cwS 3 hts (x_gS kw_129 kw_130 kw_5 kw_131) rfl rfl rfl vX5_inS ⟨Nat.le_of_ble_eq_true rfl, Nat.le_of_ble_eq_true rfl⟩) rfl hl.1 rfl (Nat.le_of_ble_eq_true rfl) dX5_isImage_4 ⟨Nat.zero_le _, Nat.zero_le _⟩ (fun z_1 _ H locs hw_2 hP hD hS => ?_)
  obtain ⟨hw_2, b_3⟩ := hw_2
  have E := x_nm_eq E hw_2
  exact RET z_1 () H locs _ _ (⟨E.symm.trans hO, (by assumption)⟩) (x_nar (by assumption)) hP hD hS dX5_isImage_7
theorem x_isImage {i : Int32} (h : ¬ F_X5_isImage i = 0) : 0 ≤ i.toNatClampNeg ∧ i.toNatClampNeg ≤ 1 ∧ i = nI i.toNatClampNeg := by
  simp only [F_X5_isImage, x_nm] at h
  exact x_ins (lo := 0) (hi := 1) (by omega) (by omega) h
abbrev rX5_copies : Room := { frames := 0, cells := 0, slots := 0, locals := 0 }
theorem vX5_copies : yX5_copies.cls = RX5 ∧ yX5_copies.cls ≠ "java/lang/invoke/MethodHandle" ∧ yX5_copies.cls ≠ "java/lang/invoke/VarHandle" ∧ (parseMethodDescriptor yX5_copies.desc).map (fun d => d.parameters.length) = some 2 := by decide +kernel
abbrev wX5_copies : List Cond := Cond.code yX5_copies cX5_copies 4 none :: wsL_law
def F_X5_copies_L2 (a1 : Nat) (a2 : Nat) : Nat → Nat → (Nat → Int32) → (Nat → Int32)
  | 0, k3_3, t_row_4 => t_row_4
  | n_5 + 1, k3_3, t_row_4 => if 20 ≤ k3_3 then t_row_4 else x_nm (upd t_row_4 ((20 * a2) + k3_3) (t_row_4 ((20 * a1) + k3_3))) fun t_row_7 => F_X5_copies_L2 a1 a2 n_5 (k3_3 + 1) t_row_7
def F_X5_copies (t_row : Nat → Int32) (a1 : Nat) (a2 : Nat) : (Nat → Int32) :=
  x_nm (α := (Nat → Int32)) (F_X5_copies_L2 a1 a2 (20 + 1) 0 t_row) fun u_2 => u_2
set_option maxHeartbeats 4000000 in
set_option maxRecDepth 100000 in
theorem m_X5_copies (l : Launch) (g : x_G) (tA tA_row tA_text tA_is tA_doings tA_doing tA_isKept tA_best tA_heats tA_orders tA_has tA_salt tA_crumbs : Nat) (t_length : Nat) (t_at : Nat) (t_begin : Nat) (t_told : Int32) (t_items : Int32) (t_when : Int32) (t_most : Int32) (t_mostAt : Int32) (t_hiss : Int32) (t_tests : Nat) (t_traced : Int64) (t_hasSkin : Int32) (t_hasBend : Int32) (t_row : Nat → Int32) (a1 : Nat) (a2 : Nat) (h_0 : a1 < 4) (h_1 : a2 < 4) : x_MetV l yX5_copies wX5_copies rX5_copies g [.ref tA, .int (nI a1), .int (nI a2)] [(tA, .inr (5, [.int (nI t_length), .ref tA_text, .int (nI t_at), .int (nI t_begin), .int t_told, .ref tA_is, .ref tA_doings, .ref tA_doing, .int t_items, .ref tA_row, .ref tA_isKept, .int t_when, .int t_most, .int t_mostAt, .int t_hiss, .ref tA_best, .ref tA_heats, .ref tA_orders, .ref tA_has, .int (nI t_tests), .ref tA_salt, .ref tA_crumbs, .long t_traced, .int t_hasSkin, .int t_hasBend])), (tA_row, .inl (g.2.1 0, 80, .inl t_row))] (fun u : (Nat → Int32) => u = F_X5_copies t_row a1 a2) (fun u => [(tA, .inr (5, [.int (nI t_length), .ref tA_text, .int (nI t_at), .int (nI t_begin), .int t_told, .ref tA_is, .ref tA_doings, .ref tA_doing, .int t_items, .ref tA_row, .ref tA_isKept, .int t_when, .int t_most, .int t_mostAt, .int t_hiss, .ref tA_best, .ref tA_heats, .ref tA_orders, .ref tA_has, .int (nI t_tests), .ref tA_salt, .ref tA_crumbs, .long t_traced, .int t_hasSkin, .int t_hasBend])), (tA_row, .inl (g.2.1 0, 80, .inl u))]) := by
  refine x_startV (cc := cX5_copies) (maxL := 4) (by decide) rfl (Nat.le_of_ble_eq_true rfl) ?_
  intro p e s m args below meth c Q A ls H locs hx hb hml hown hts hK hX hP hD hS hA hl RET
  have hown : s.vm.findClass RX5 = some m.cls := hown
  have hl : lv_has ls 4 [(0, .ref tA), (1, .int (nI a1)), (2, .int (nI a2))] := hl
  obtain ⟨o_0, hO⟩ : ∃ z, z = F_X5_copies t_row a1 a2 := ⟨_, rfl⟩
  have E := hO
  rw [F_X5_copies.eq_1] at E
  refine lv_iconst (v := 0) hx hb dX5_copies_0 (by decide) ?_
  refine lv_istore_n (lv' := [(3, .int 0), (0, .ref tA), (1, .int (nI a1)), (2, .int (nI a2))]) hx hb dX5_copies_1 rfl hl (by decide) rfl (fun ls hl => ?_)
  obtain ⟨o_2, E_2, E⟩ := x_nm_ex E
  have J_2 : ∀ (t_row_1 : Nat → Int32), o_2 = t_row_1 → ∀ (H : Heap) (locs : List Loc) (ls : Array Slot), va_P g.1 vwCl [(tA, .inr (5, [.int (nI t_length), .ref tA_text, .int (nI t_at), .int (nI t_begin), .int t_told, .ref tA_is, .ref tA_doings, .ref tA_doing, .int t_items, .ref tA_row, .ref tA_isKept, .int t_when, .int t_most, .int t_mostAt, .int t_hiss, .ref tA_best, .ref tA_heats, .ref tA_orders, .ref tA_has, .int (nI t_tests), .ref tA_salt, .ref tA_crumbs, .long t_traced, .int t_hasSkin, .int t_hasBend])), (tA_row, .inl (g.2.1 0, 80, .inl t_row_1))] H → va_D A [(tA, .inr (5, [.int (nI t_length), .ref tA_text, .int (nI t_at), .int (nI t_begin), .int t_told, .ref tA_is, .ref tA_doings, .ref tA_doing, .int t_items, .ref tA_row, .ref tA_isKept, .int t_when, .int t_most, .int t_mostAt, .int t_hiss, .ref tA_best, .ref tA_heats, .ref tA_orders, .ref tA_has, .int (nI t_tests), .ref tA_salt, .ref tA_crumbs, .long t_traced, .int t_hasSkin, .int t_hasBend])), (tA_row, .inl (g.2.1 0, 80, .inl t_row_1))] → va_S A s.heap H locs → lv_has ls 4 [] → W p l e rX5_copies s m args below meth c H locs 0 0 Q (F0 m 36 ls []) := by
    intro t_row_1 hE  H locs ls hP hD hS hl
    try rw [hE] at E
    exact RET t_row_1 H locs _ _ (E.symm.trans hO) hP hD hS dX5_copies_36
  have E := E_2
  have L_5 : ∀ (n_5 : Nat) (k3_3 : Nat) (t_row_4 : Nat → Int32), (k3_3 ≤ 20) → ((20 - k3_3) < n_5) → o_2 = F_X5_copies_L2 a1 a2 n_5 k3_3 t_row_4 → ∀ (H : Heap) (locs : List Loc) (ls : Array Slot), va_P g.1 vwCl [(tA, .inr (5, [.int (nI t_length), .ref tA_text, .int (nI t_at), .int (nI t_begin), .int t_told, .ref tA_is, .ref tA_doings, .ref tA_doing, .int t_items, .ref tA_row, .ref tA_isKept, .int t_when, .int t_most, .int t_mostAt, .int t_hiss, .ref tA_best, .ref tA_heats, .ref tA_orders, .ref tA_has, .int (nI t_tests), .ref tA_salt, .ref tA_crumbs, .long t_traced, .int t_hasSkin, .int t_hasBend])), (tA_row, .inl (g.2.1 0, 80, .inl t_row_4))] H → va_D A [(tA, .inr (5, [.int (nI t_length), .ref tA_text, .int (nI t_at), .int (nI t_begin), .int t_told, .ref tA_is, .ref tA_doings, .ref tA_doing, .int t_items, .ref tA_row, .ref tA_isKept, .int t_when, .int t_most, .int t_mostAt, .int t_hiss, .ref tA_best, .ref tA_heats, .ref tA_orders, .ref tA_has, .int (nI t_tests), .ref tA_salt, .ref tA_crumbs, .long t_traced, .int t_hasSkin, .int t_hasBend])), (tA_row, .inl (g.2.1 0, 80, .inl t_row_4))] → va_S A s.heap H locs → lv_has ls 4 [(0, .ref tA), (1, .int (nI a1)), (2, .int (nI a2)), (3, .int (nI k3_3))] → W p l e rX5_copies s m args below meth c H locs 0 0 Q (F0 m 2 ls []) := by
    intro n_5
    induction n_5 with
    | zero => intro k3_3 t_row_4 i_5_0 i_5_1; exact absurd i_5_1 (by omega)
    | succ n_5 ih_5 =>
      intro k3_3 t_row_4 i_5_0 i_5_1 E H locs ls hP hD hS hl
      rw [F_X5_copies_L2.eq_2] at E
      refine lv_iload_n hx hb dX5_copies_2 rfl (lv_at hl 3 rfl) ?_
      refine lv_bipush (v := 20) hx hb dX5_copies_3 (by decide) ?_
      refine x_icmp_ge (a := k3_3) (b := 20) (tgt := 36) hx hb (by omega) (by omega) dX5_copies_5 (by decide) (fun c_6 => ?_) (fun c_6 => ?_)
      · have E := x_pos E c_6
        exact J_2 t_row_4 E  H locs ls hP hD hS (lv_sub hl [] rfl)
      · have E := x_neg E c_6
        refine lv_aload_n hx hb dX5_copies_8 rfl (lv_at hl 0 rfl) ?_
        refine va_get (ci := 5) (v := .ref tA_row) (C := RX5) (T := TX5) (N := 25) hx hb hts inlX5 hown hK.1 hP 0 rfl rfl 9 (by decide) (hts _ kw_97) (fun _ h9 => h9) rfl dX5_copies_9 ?_
        refine lv_bipush (v := 20) hx hb dX5_copies_12 (by decide) ?_
        refine lv_iload_n hx hb dX5_copies_14 rfl (lv_at hl 2 rfl) ?_
        refine lv_imul hx hb dX5_copies_15 ?_
        refine x_eqi (pk_mul 20 a2) ?_
        refine lv_iload_n hx hb dX5_copies_16 rfl (lv_at hl 3 rfl) ?_
        refine lv_iadd hx hb dX5_copies_17 ?_
        refine x_eqi (nI_add (20 * a2) k3_3) ?_
        refine lv_aload_n hx hb dX5_copies_18 rfl (lv_at hl 0 rfl) ?_
        refine va_get (ci := 5) (v := .ref tA_row) (C := RX5) (T := TX5) (N := 25) hx hb hts inlX5 hown hK.1 hP 0 rfl rfl 9 (by decide) (hts _ kw_97) (fun _ h9 => h9) rfl dX5_copies_19 ?_
        refine lv_bipush (v := 20) hx hb dX5_copies_22 (by decide) ?_
        refine lv_iload_n hx hb dX5_copies_24 rfl (lv_at hl 1 rfl) ?_
        refine lv_imul hx hb dX5_copies_25 ?_
        refine x_eqi (pk_mul 20 a1) ?_
        refine lv_iload_n hx hb dX5_copies_26 rfl (lv_at hl 3 rfl) ?_
        refine lv_iadd hx hb dX5_copies_27 ?_
        refine x_eqi (nI_add (20 * a1) k3_3) ?_
        refine x_ialdN hx hb hK hP 1 ((20 * a1) + k3_3) rfl (by omega) (by decide) dX5_copies_28 ?_
        refine x_iastN hx hb hK hP hD hS 1 ((20 * a2) + k3_3) rfl (by omega) (by decide) dX5_copies_29 (fun t_row_7 H locs hf hP hD hS => ?_)
        have hP : va_P g.1 vwCl [(tA, .inr (5, [.int (nI t_length), .ref tA_text, .int (nI t_at), .int (nI t_begin), .int t_told, .ref tA_is, .ref tA_doings, .ref tA_doing, .int t_items, .ref tA_row, .ref tA_isKept, .int t_when, .int t_most, .int t_mostAt, .int t_hiss, .ref tA_best, .ref tA_heats, .ref tA_orders, .ref tA_has, .int (nI t_tests), .ref tA_salt, .ref tA_crumbs, .long t_traced, .int t_hasSkin, .int t_hasBend])), (tA_row, .inl (g.2.1 0, 80, .inl t_row_7))] H := hP
        have hD : va_D A [(tA, .inr (5, [.int (nI t_length), .ref tA_text, .int (nI t_at), .int (nI t_begin), .int t_told, .ref tA_is, .ref tA_doings, .ref tA_doing, .int t_items, .ref tA_row, .ref tA_isKept, .int t_when, .int t_most, .int t_mostAt, .int t_hiss, .ref tA_best, .ref tA_heats, .ref tA_orders, .ref tA_has, .int (nI t_tests), .ref tA_salt, .ref tA_crumbs, .long t_traced, .int t_hasSkin, .int t_hasBend])), (tA_row, .inl (g.2.1 0, 80, .inl t_row_7))] := hD
        have E := x_nm_eq E hf
        refine lv_iinc (v := nI (k3_3 + 1)) (lv' := [(3, .int (nI (k3_3 + 1))), (0, .ref tA), (1, .int (nI a1)), (2, .int (nI a2))]) hx hb dX5_copies_30 hl (k := 3) rfl (nI_1 k3_3) (by decide) rfl (fun ls hl => ?_)
        refine lv_goto (tgt := 2) hx hb dX5_copies_33 (by decide) ?_
        exact ih_5 (k3_3 + 1) t_row_7 (by first | omega | assumption | exact Eq.trans (by assumption) (by assumption)) (by omega) E H locs ls hP hD hS (lv_sub hl [1, 2, 3, 0] rfl)
  exact L_5 (20 + 1) 0 t_row (by first | omega | assumption | rfl) (by omega) E H locs ls hP hD hS (lv_sub hl [1, 2, 3, 0] rfl)
abbrev rX5_keep : Room := { frames := 2, cells := 0, slots := 0, locals := 45 }
theorem vX5_keep : yX5_keep.cls = RX5 ∧ yX5_keep.cls ≠ "java/lang/invoke/MethodHandle" ∧ yX5_keep.cls ≠ "java/lang/invoke/VarHandle" ∧ (parseMethodDescriptor yX5_keep.desc).map (fun d => d.parameters.length) = some 1 := by decide +kernel
abbrev wX5_keep : List Cond := Cond.code yX5_keep cX5_keep 2 (some .int) :: wsL_law
def F_X5_keep (t_row : Nat → Int32) (t_isKept : Nat → Int32) (a1 : Int32) : Int32 × (Nat → Int32) × (Nat → Int32) :=
  x_nm (F_X5_isImage a1) fun z_1 => if z_1 = 0 then ((-1), t_row, t_isKept) else x_nm (a1.toNatClampNeg) fun j_7 => x_nm (F_X5_copies t_row 0 (j_7 + 1)) fun t_row_8 => x_nm (upd t_isKept j_7 1) fun t_isKept_11 => (t_row_8 12, t_row_8, t_isKept_11)
set_option maxHeartbeats 4000000 in
set_option maxRecDepth 100000 in
theorem m_X5_keep (l : Launch) (g : x_G) (tA tA_row tA_isKept tA_text tA_is tA_doings tA_doing tA_best tA_heats tA_orders tA_has tA_salt tA_crumbs : Nat) (t_length : Nat) (t_at : Nat) (t_begin : Nat) (t_told : Int32) (t_items : Int32) (t_when : Int32) (t_most : Int32) (t_mostAt : Int32) (t_hiss : Int32) (t_tests : Nat) (t_traced : Int64) (t_hasSkin : Int32) (t_hasBend : Int32) (t_row : Nat → Int32) (t_isKept : Nat → Int32) (a1 : Int32) : x_MetI l yX5_keep wX5_keep rX5_keep g [.ref tA, .int a1] [(tA, .inr (5, [.int (nI t_length), .ref tA_text, .int (nI t_at), .int (nI t_begin), .int t_told, .ref tA_is, .ref tA_doings, .ref tA_doing, .int t_items, .ref tA_row, .ref tA_isKept, .int t_when, .int t_most, .int t_mostAt, .int t_hiss, .ref tA_best, .ref tA_heats, .ref tA_orders, .ref tA_has, .int (nI t_tests), .ref tA_salt, .ref tA_crumbs, .long t_traced, .int t_hasSkin, .int t_hasBend])), (tA_row, .inl (g.2.1 0, 80, .inl t_row)), (tA_isKept, .inl (g.2.1 1, 2, .inl t_isKept))] (fun (r : Int32) (u : (Nat → Int32) × (Nat → Int32)) => (r, u) = F_X5_keep t_row t_isKept a1) (fun u => [(tA, .inr (5, [.int (nI t_length), .ref tA_text, .int (nI t_at), .int (nI t_begin), .int t_told, .ref tA_is, .ref tA_doings, .ref tA_doing, .int t_items, .ref tA_row, .ref tA_isKept, .int t_when, .int t_most, .int t_mostAt, .int t_hiss, .ref tA_best, .ref tA_heats, .ref tA_orders, .ref tA_has, .int (nI t_tests), .ref tA_salt, .ref tA_crumbs, .long t_traced, .int t_hasSkin, .int t_hasBend])), (tA_row, .inl (g.2.1 0, 80, .inl u.1)), (tA_isKept, .inl (g.2.1 1, 2, .inl u.2))]) := by
  refine x_startI (cc := cX5_keep) (maxL := 2) (by decide) rfl (Nat.le_of_ble_eq_true rfl) ?_
  intro p e s m args below meth c Q A ls H locs hx hb hml hown hts hK hX hP hD hS hA hl RET
  have hown : s.vm.findClass RX5 = some m.cls := hown
  have hl : lv_has ls 2 [(0, .ref tA), (1, .int a1)] := hl
  obtain ⟨o_0, hO⟩ : ∃ z, z = F_X5_keep t_row t_isKept a1 := ⟨_, rfl⟩
  have E := hO
  rw [F_X5_keep.eq_1] at E
  refine lv_iload_n hx hb dX5_keep_0 rfl (lv_at hl 1 rfl) ?_
  refine x_callS0 ⟨hx, hb, hml, hown, hts⟩ hK hX hP hD hS hA (m_X5_isImage l g a1) (va_cwS 1 hts (x_gS kw_863 kw_864 kw_5 kw_865) rfl rfl rfl vX5_isImageS ⟨Nat.le_of_ble_eq_true rfl, Nat.le_of_ble_eq_true rfl⟩) rfl hl.1 rfl (Nat.le_of_ble_eq_true rfl) dX5_keep_1 ⟨Nat.zero_le _, Nat.zero_le _⟩ (fun z_1 _ H locs hw_2 hP hD hS => ?_)
  obtain ⟨hw_2, b_3⟩ := hw_2
  have E := x_nm_eq E hw_2
  refine x_if_neI (tgt := 9) hx hb dX5_keep_4 (by decide) (fun c_5 => ?_) (fun c_5 => ?_)
  · have E := x_neg E c_5
    have r_6 := x_isImage (fun q => c_5 (hw_2.trans q))
    obtain ⟨j_7, hj⟩ : ∃ z, z = (a1).toNatClampNeg := ⟨_, rfl⟩
    have r_6_0 := r_6
    rw [← hj] at r_6_0
    obtain ⟨r_6_0_a, r_6_0_b, e_6_0⟩ := r_6_0
    have E := x_nm_eq E hj
    have hl : lv_has ls 2 [(0, .ref tA), (1, .int (nI j_7))] := by rw [e_6_0] at hl; exact hl
    refine lv_aload_n hx hb dX5_keep_9 rfl (lv_at hl 0 rfl) ?_
    refine lv_iconst (v := 0) hx hb dX5_keep_10 (by decide) ?_
    refine lv_iload_n hx hb dX5_keep_11 rfl (lv_at hl 1 rfl) ?_
    refine lv_iconst (v := 1) hx hb dX5_keep_12 (by decide) ?_
    refine lv_iadd hx hb dX5_keep_13 ?_
    refine x_eqi (nI_add j_7 1) ?_
    refine x_callVv (w2 := fun u => [(tA, .inr (5, [.int (nI t_length), .ref tA_text, .int (nI t_at), .int (nI t_begin), .int t_told, .ref tA_is, .ref tA_doings, .ref tA_doing, .int t_items, .ref tA_row, .ref tA_isKept, .int t_when, .int t_most, .int t_mostAt, .int t_hiss, .ref tA_best, .ref tA_heats, .ref tA_orders, .ref tA_has, .int (nI t_tests), .ref tA_salt, .ref tA_crumbs, .long t_traced, .int t_hasSkin, .int t_hasBend])), (tA_row, .inl (g.2.1 0, 80, .inl u)), (tA_isKept, .inl (g.2.1 1, 2, .inl t_isKept))]) (wr := [(tA_isKept, .inl (g.2.1 1, 2, .inl t_isKept))]) [0, 1] [2] [1, 2, 0] 0 5 ⟨hx, hb, hml, hown, hts⟩ hK hX hP hD hS hA (m_X5_copies l g tA tA_row tA_text tA_is tA_doings tA_doing tA_isKept tA_best tA_heats tA_orders tA_has tA_salt tA_crumbs t_length t_at t_begin t_told t_items t_when t_most t_mostAt t_hiss t_tests t_traced t_hasSkin t_hasBend t_row 0 (j_7 + 1) (by first | assumption | omega | exact x_e8 (by assumption) (by assumption)) (by first | assumption | omega | exact x_e8 (by assumption) (by assumption))) (cwV 2 hts (x_gV kw_866 kw_867 kw_868 kw_5 kw_869) rfl rfl rfl vX5_copies ⟨Nat.le_of_ble_eq_true rfl, Nat.le_of_ble_eq_true rfl⟩) rfl rfl rfl rfl rfl rfl rfl (by decide) (fun _ => rfl) rfl rfl hl.1 rfl (Nat.le_of_ble_eq_true rfl) dX5_keep_14 ⟨Nat.zero_le _, Nat.zero_le _⟩ (fun t_row_8 H locs hw_9 hP hD hS => ?_)
    have hP : va_P g.1 vwCl [(tA, .inr (5, [.int (nI t_length), .ref tA_text, .int (nI t_at), .int (nI t_begin), .int t_told, .ref tA_is, .ref tA_doings, .ref tA_doing, .int t_items, .ref tA_row, .ref tA_isKept, .int t_when, .int t_most, .int t_mostAt, .int t_hiss, .ref tA_best, .ref tA_heats, .ref tA_orders, .ref tA_has, .int (nI t_tests), .ref tA_salt, .ref tA_crumbs, .long t_traced, .int t_hasSkin, .int t_hasBend])), (tA_row, .inl (g.2.1 0, 80, .inl t_row_8)), (tA_isKept, .inl (g.2.1 1, 2, .inl t_isKept))] H := hP
    have hD : va_D A [(tA, .inr (5, [.int (nI t_length), .ref tA_text, .int (nI t_at), .int (nI t_begin), .int t_told, .ref tA_is, .ref tA_doings, .ref tA_doing, .int t_items, .ref tA_row, .ref tA_isKept, .int t_when, .int t_most, .int t_mostAt, .int t_hiss, .ref tA_best, .ref tA_heats, .ref tA_orders, .ref tA_has, .int (nI t_tests), .ref tA_salt, .ref tA_crumbs, .long t_traced, .int t_hasSkin, .int t_hasBend])), (tA_row, .inl (g.2.1 0, 80, .inl t_row_8)), (tA_isKept, .inl (g.2.1 1, 2, .inl t_isKept))] := hD
    have E := x_nm_eq E hw_9
    refine lv_aload_n hx hb dX5_keep_17 rfl (lv_at hl 0 rfl) ?_
    refine va_get (ci := 5) (v := .ref tA_isKept) (C := RX5) (T := TX5) (N := 25) hx hb hts inlX5 hown hK.1 hP 0 rfl rfl 10 (by decide) (hts _ kw_98) (fun _ h9 => h9) rfl dX5_keep_18 ?_
    refine lv_iload_n hx hb dX5_keep_21 rfl (lv_at hl 1 rfl) ?_
    refine lv_iconst (v := 1) hx hb dX5_keep_22 (by decide) ?_
    refine x_zastN hx hb hK hP hD hS 2 j_7 rfl (by omega) (by decide) dX5_keep_23 (x_nar0 (Or.inr rfl)) (fun t_isKept_11 H locs hf hP hD hS => ?_)
    have hP : va_P g.1 vwCl [(tA, .inr (5, [.int (nI t_length), .ref tA_text, .int (nI t_at), .int (nI t_begin), .int t_told, .ref tA_is, .ref tA_doings, .ref tA_doing, .int t_items, .ref tA_row, .ref tA_isKept, .int t_when, .int t_most, .int t_mostAt, .int t_hiss, .ref tA_best, .ref tA_heats, .ref tA_orders, .ref tA_has, .int (nI t_tests), .ref tA_salt, .ref tA_crumbs, .long t_traced, .int t_hasSkin, .int t_hasBend])), (tA_row, .inl (g.2.1 0, 80, .inl t_row_8)), (tA_isKept, .inl (g.2.1 1, 2, .inl t_isKept_11))] H := hP
    have hD : va_D A [(tA, .inr (5, [.int (nI t_length), .ref tA_text, .int (nI t_at), .int (nI t_begin), .int t_told, .ref tA_is, .ref tA_doings, .ref tA_doing, .int t_items, .ref tA_row, .ref tA_isKept, .int t_when, .int t_most, .int t_mostAt, .int t_hiss, .ref tA_best, .ref tA_heats, .ref tA_orders, .ref tA_has, .int (nI t_tests), .ref tA_salt, .ref tA_crumbs, .long t_traced, .int t_hasSkin, .int t_hasBend])), (tA_row, .inl (g.2.1 0, 80, .inl t_row_8)), (tA_isKept, .inl (g.2.1 1, 2, .inl t_isKept_11))] := hD
    have E := x_nm_eq E hf
    refine lv_aload_n hx hb dX5_keep_24 rfl (lv_at hl 0 rfl) ?_
    refine va_get (ci := 5) (v := .ref tA_row) (C := RX5) (T := TX5) (N := 25) hx hb hts inlX5 hown hK.1 hP 0 rfl rfl 9 (by decide) (hts _ kw_97) (fun _ h9 => h9) rfl dX5_keep_25 ?_
    refine lv_bipush (v := 12) hx hb dX5_keep_28 (by decide) ?_
    refine x_ialdN hx hb hK hP 1 12 rfl (by omega) (by decide) dX5_keep_30 ?_
    exact RET (t_row_8 12) (t_row_8, t_isKept_11) H locs _ _ (E.symm.trans hO) rfl hP hD hS dX5_keep_31
  · have E := x_pos E c_5
    refine lv_iconst (v := (-1)) hx hb dX5_keep_7 (by decide) ?_
    exact RET (-1) (t_row, t_isKept) H locs _ _ (E.symm.trans hO) rfl hP hD hS dX5_keep_8
abbrev rX5_back : Room := { frames := 2, cells := 0, slots := 0, locals := 45 }
theorem vX5_back : yX5_back.cls = RX5 ∧ yX5_back.cls ≠ "java/lang/invoke/MethodHandle" ∧ yX5_back.cls ≠ "java/lang/invoke/VarHandle" ∧ (parseMethodDescriptor yX5_back.desc).map (fun d => d.parameters.length) = some 1 := by decide +kernel
abbrev wX5_back : List Cond := Cond.code yX5_back cX5_back 2 (some .int) :: wsL_law
def F_X5_back (t_row : Nat → Int32) (t_isKept : Nat → Int32) (a1 : Int32) : Int32 × (Nat → Int32) :=
  x_nm (F_X5_isImage a1) fun z_1 => if z_1 = 0 then ((-1), t_row) else x_nm (a1.toNatClampNeg) fun j_7 => if (t_isKept j_7) = 0 then ((-2), t_row) else x_nm (F_X5_copies t_row (j_7 + 1) 0) fun t_row_9 => (t_row_9 12, t_row_9)
set_option maxHeartbeats 4000000 in
set_option maxRecDepth 100000 in
theorem m_X5_back (l : Launch) (g : x_G) (tA tA_row tA_isKept tA_text tA_is tA_doings tA_doing tA_best tA_heats tA_orders tA_has tA_salt tA_crumbs : Nat) (t_length : Nat) (t_at : Nat) (t_begin : Nat) (t_told : Int32) (t_items : Int32) (t_when : Int32) (t_most : Int32) (t_mostAt : Int32) (t_hiss : Int32) (t_tests : Nat) (t_traced : Int64) (t_hasSkin : Int32) (t_hasBend : Int32) (t_row : Nat → Int32) (t_isKept : Nat → Int32) (a1 : Int32) : x_MetI l yX5_back wX5_back rX5_back g [.ref tA, .int a1] [(tA, .inr (5, [.int (nI t_length), .ref tA_text, .int (nI t_at), .int (nI t_begin), .int t_told, .ref tA_is, .ref tA_doings, .ref tA_doing, .int t_items, .ref tA_row, .ref tA_isKept, .int t_when, .int t_most, .int t_mostAt, .int t_hiss, .ref tA_best, .ref tA_heats, .ref tA_orders, .ref tA_has, .int (nI t_tests), .ref tA_salt, .ref tA_crumbs, .long t_traced, .int t_hasSkin, .int t_hasBend])), (tA_row, .inl (g.2.1 0, 80, .inl t_row)), (tA_isKept, .inl (g.2.1 1, 2, .inl t_isKept))] (fun (r : Int32) (u : (Nat → Int32)) => (r, u) = F_X5_back t_row t_isKept a1) (fun u => [(tA, .inr (5, [.int (nI t_length), .ref tA_text, .int (nI t_at), .int (nI t_begin), .int t_told, .ref tA_is, .ref tA_doings, .ref tA_doing, .int t_items, .ref tA_row, .ref tA_isKept, .int t_when, .int t_most, .int t_mostAt, .int t_hiss, .ref tA_best, .ref tA_heats, .ref tA_orders, .ref tA_has, .int (nI t_tests), .ref tA_salt, .ref tA_crumbs, .long t_traced, .int t_hasSkin, .int t_hasBend])), (tA_row, .inl (g.2.1 0, 80, .inl u)), (tA_isKept, .inl (g.2.1 1, 2, .inl t_isKept))]) := by
  refine x_startI (cc := cX5_back) (maxL := 2) (by decide) rfl (Nat.le_of_ble_eq_true rfl) ?_
  intro p e s m args below meth c Q A ls H locs hx hb hml hown hts hK hX hP hD hS hA hl RET
  have hown : s.vm.findClass RX5 = some m.cls := hown
  have hl : lv_has ls 2 [(0, .ref tA), (1, .int a1)] := hl
  obtain ⟨o_0, hO⟩ : ∃ z, z = F_X5_back t_row t_isKept a1 := ⟨_, rfl⟩
  have E := hO
  rw [F_X5_back.eq_1] at E
  refine lv_iload_n hx hb dX5_back_0 rfl (lv_at hl 1 rfl) ?_
  refine x_callS0 ⟨hx, hb, hml, hown, hts⟩ hK hX hP hD hS hA (m_X5_isImage l g a1) (va_cwS 1 hts (x_gS kw_863 kw_864 kw_5 kw_865) rfl rfl rfl vX5_isImageS ⟨Nat.le_of_ble_eq_true rfl, Nat.le_of_ble_eq_true rfl⟩) rfl hl.1 rfl (Nat.le_of_ble_eq_true rfl) dX5_back_1 ⟨Nat.zero_le _, Nat.zero_le _⟩ (fun z_1 _ H locs hw_2 hP hD hS => ?_)
  obtain ⟨hw_2, b_3⟩ := hw_2
  have E := x_nm_eq E hw_2
  refine x_if_neI (tgt := 9) hx hb dX5_back_4 (by decide) (fun c_5 => ?_) (fun c_5 => ?_)
  · have E := x_neg E c_5
    have r_6 := x_isImage (fun q => c_5 (hw_2.trans q))
    obtain ⟨j_7, hj⟩ : ∃ z, z = (a1).toNatClampNeg := ⟨_, rfl⟩
    have r_6_0 := r_6
    rw [← hj] at r_6_0
    obtain ⟨r_6_0_a, r_6_0_b, e_6_0⟩ := r_6_0
    have E := x_nm_eq E hj
    have hl : lv_has ls 2 [(0, .ref tA), (1, .int (nI j_7))] := by rw [e_6_0] at hl; exact hl
    refine lv_aload_n hx hb dX5_back_9 rfl (lv_at hl 0 rfl) ?_
    refine va_get (ci := 5) (v := .ref tA_isKept) (C := RX5) (T := TX5) (N := 25) hx hb hts inlX5 hown hK.1 hP 0 rfl rfl 10 (by decide) (hts _ kw_98) (fun _ h9 => h9) rfl dX5_back_10 ?_
    refine lv_iload_n hx hb dX5_back_13 rfl (lv_at hl 1 rfl) ?_
    refine x_zaldN hx hb hK hP 2 j_7 rfl (by omega) (by decide) dX5_back_14 ?_
    refine x_if_neI (tgt := 21) hx hb dX5_back_15 (by decide) (fun c_8 => ?_) (fun c_8 => ?_)
    · have E := x_neg E c_8
      refine lv_aload_n hx hb dX5_back_21 rfl (lv_at hl 0 rfl) ?_
      refine lv_iload_n hx hb dX5_back_22 rfl (lv_at hl 1 rfl) ?_
      refine lv_iconst (v := 1) hx hb dX5_back_23 (by decide) ?_
      refine lv_iadd hx hb dX5_back_24 ?_
      refine x_eqi (nI_add j_7 1) ?_
      refine lv_iconst (v := 0) hx hb dX5_back_25 (by decide) ?_
      refine x_callVv (w2 := fun u => [(tA, .inr (5, [.int (nI t_length), .ref tA_text, .int (nI t_at), .int (nI t_begin), .int t_told, .ref tA_is, .ref tA_doings, .ref tA_doing, .int t_items, .ref tA_row, .ref tA_isKept, .int t_when, .int t_most, .int t_mostAt, .int t_hiss, .ref tA_best, .ref tA_heats, .ref tA_orders, .ref tA_has, .int (nI t_tests), .ref tA_salt, .ref tA_crumbs, .long t_traced, .int t_hasSkin, .int t_hasBend])), (tA_row, .inl (g.2.1 0, 80, .inl u)), (tA_isKept, .inl (g.2.1 1, 2, .inl t_isKept))]) (wr := [(tA_isKept, .inl (g.2.1 1, 2, .inl t_isKept))]) [0, 1] [2] [1, 2, 0] 0 5 ⟨hx, hb, hml, hown, hts⟩ hK hX hP hD hS hA (m_X5_copies l g tA tA_row tA_text tA_is tA_doings tA_doing tA_isKept tA_best tA_heats tA_orders tA_has tA_salt tA_crumbs t_length t_at t_begin t_told t_items t_when t_most t_mostAt t_hiss t_tests t_traced t_hasSkin t_hasBend t_row (j_7 + 1) 0 (by first | assumption | omega | exact x_e8 (by assumption) (by assumption)) (by first | assumption | omega | exact x_e8 (by assumption) (by assumption))) (cwV 2 hts (x_gV kw_866 kw_867 kw_868 kw_5 kw_869) rfl rfl rfl vX5_copies ⟨Nat.le_of_ble_eq_true rfl, Nat.le_of_ble_eq_true rfl⟩) rfl rfl rfl rfl rfl rfl rfl (by decide) (fun _ => rfl) rfl rfl hl.1 rfl (Nat.le_of_ble_eq_true rfl) dX5_back_26 ⟨Nat.zero_le _, Nat.zero_le _⟩ (fun t_row_9 H locs hw_10 hP hD hS => ?_)
      have hP : va_P g.1 vwCl [(tA, .inr (5, [.int (nI t_length), .ref tA_text, .int (nI t_at), .int (nI t_begin), .int t_told, .ref tA_is, .ref tA_doings, .ref tA_doing, .int t_items, .ref tA_row, .ref tA_isKept, .int t_when, .int t_most, .int t_mostAt, .int t_hiss, .ref tA_best, .ref tA_heats, .ref tA_orders, .ref tA_has, .int (nI t_tests), .ref tA_salt, .ref tA_crumbs, .long t_traced, .int t_hasSkin, .int t_hasBend])), (tA_row, .inl (g.2.1 0, 80, .inl t_row_9)), (tA_isKept, .inl (g.2.1 1, 2, .inl t_isKept))] H := hP
      have hD : va_D A [(tA, .inr (5, [.int (nI t_length), .ref tA_text, .int (nI t_at), .int (nI t_begin), .int t_told, .ref tA_is, .ref tA_doings, .ref tA_doing, .int t_items, .ref tA_row, .ref tA_isKept, .int t_when, .int t_most, .int t_mostAt, .int t_hiss, .ref tA_best, .ref tA_heats, .ref tA_orders, .ref tA_has, .int (nI t_tests), .ref tA_salt, .ref tA_crumbs, .long t_traced, .int t_hasSkin, .int t_hasBend])), (tA_row, .inl (g.2.1 0, 80, .inl t_row_9)), (tA_isKept, .inl (g.2.1 1, 2, .inl t_isKept))] := hD
      have E := x_nm_eq E hw_10
      refine lv_aload_n hx hb dX5_back_29 rfl (lv_at hl 0 rfl) ?_
      refine va_get (ci := 5) (v := .ref tA_row) (C := RX5) (T := TX5) (N := 25) hx hb hts inlX5 hown hK.1 hP 0 rfl rfl 9 (by decide) (hts _ kw_97) (fun _ h9 => h9) rfl dX5_back_30 ?_
      refine lv_bipush (v := 12) hx hb dX5_back_33 (by decide) ?_
      refine x_ialdN hx hb hK hP 1 12 rfl (by omega) (by decide) dX5_back_35 ?_
      exact RET (t_row_9 12) t_row_9 H locs _ _ (E.symm.trans hO) rfl hP hD hS dX5_back_36
    · have E := x_pos E c_8
      refine lv_bipush (v := (-2)) hx hb dX5_back_18 (by decide) ?_
      exact RET (-2) t_row H locs _ _ (E.symm.trans hO) rfl hP hD hS dX5_back_20
  · have E := x_pos E c_5
    refine lv_iconst (v := (-1)) hx hb dX5_back_7 (by decide) ?_
    exact RET (-1) t_row H locs _ _ (E.symm.trans hO) rfl hP hD hS dX5_back_8
abbrev rX5_count : Room := { frames := 0, cells := 0, slots := 0, locals := 0 }
theorem vX5_count : yX5_count.cls = RX5 ∧ yX5_count.cls ≠ "java/lang/invoke/MethodHandle" ∧ yX5_count.cls ≠ "java/lang/invoke/VarHandle" ∧ (parseMethodDescriptor yX5_count.desc).map (fun d => d.parameters.length) = some 1 := by decide +kernel
abbrev wX5_count : List Cond := Cond.code yX5_count cX5_count 2 (some .int) :: wsL_law
def F_X5_count (t_length : Nat) (t_doings : Nat → Int32) (t_tests : Nat) (a1 : Int32) : Int32 :=
  x_nm (α := Int32) (if a1 = 0 then t_doings 0 else if a1 = 1 then nI t_tests else if a1 = 2 then nI t_length else (-1)) fun u_2 => u_2
set_option maxHeartbeats 4000000 in
set_option maxRecDepth 100000 in
theorem m_X5_count (l : Launch) (g : x_G) (tA tA_doings tA_text tA_is tA_doing tA_row tA_isKept tA_best tA_heats tA_orders tA_has tA_salt tA_crumbs : Nat) (t_length : Nat) (t_at : Nat) (t_begin : Nat) (t_told : Int32) (t_items : Int32) (t_when : Int32) (t_most : Int32) (t_mostAt : Int32) (t_hiss : Int32) (t_tests : Nat) (t_traced : Int64) (t_hasSkin : Int32) (t_hasBend : Int32) (t_doings : Nat → Int32) (a1 : Int32) : x_MetI l yX5_count wX5_count rX5_count g [.ref tA, .int a1] [(tA, .inr (5, [.int (nI t_length), .ref tA_text, .int (nI t_at), .int (nI t_begin), .int t_told, .ref tA_is, .ref tA_doings, .ref tA_doing, .int t_items, .ref tA_row, .ref tA_isKept, .int t_when, .int t_most, .int t_mostAt, .int t_hiss, .ref tA_best, .ref tA_heats, .ref tA_orders, .ref tA_has, .int (nI t_tests), .ref tA_salt, .ref tA_crumbs, .long t_traced, .int t_hasSkin, .int t_hasBend])), (tA_doings, .inl (g.2.1 0, 2, .inl t_doings))] (fun (r : Int32) (u : Unit) => r = F_X5_count t_length t_doings t_tests a1) (fun _ => [(tA, .inr (5, [.int (nI t_length), .ref tA_text, .int (nI t_at), .int (nI t_begin), .int t_told, .ref tA_is, .ref tA_doings, .ref tA_doing, .int t_items, .ref tA_row, .ref tA_isKept, .int t_when, .int t_most, .int t_mostAt, .int t_hiss, .ref tA_best, .ref tA_heats, .ref tA_orders, .ref tA_has, .int (nI t_tests), .ref tA_salt, .ref tA_crumbs, .long t_traced, .int t_hasSkin, .int t_hasBend])), (tA_doings, .inl (g.2.1 0, 2, .inl t_doings))]) := by
  refine x_startI (cc := cX5_count) (maxL := 2) (by decide) rfl (Nat.le_of_ble_eq_true rfl) ?_
  intro p e s m args below meth c Q A ls H locs hx hb hml hown hts hK hX hP hD hS hA hl RET
  have hown : s.vm.findClass RX5 = some m.cls := hown
  have hl : lv_has ls 2 [(0, .ref tA), (1, .int a1)] := hl
  obtain ⟨o_0, hO⟩ : ∃ z, z = F_X5_count t_length t_doings t_tests a1 := ⟨_, rfl⟩
  have E := hO
  rw [F_X5_count.eq_1] at E
  refine lv_iload_n hx hb dX5_count_0 rfl (lv_at hl 1 rfl) ?_
  obtain ⟨o_2, E_2, E⟩ := x_nm_ex E
  have J_2 : ∀ (v_1 : Int32), o_2 = v_1 → ∀ (H : Heap) (locs : List Loc) (ls : Array Slot), va_P g.1 vwCl [(tA, .inr (5, [.int (nI t_length), .ref tA_text, .int (nI t_at), .int (nI t_begin), .int t_told, .ref tA_is, .ref tA_doings, .ref tA_doing, .int t_items, .ref tA_row, .ref tA_isKept, .int t_when, .int t_most, .int t_mostAt, .int t_hiss, .ref tA_best, .ref tA_heats, .ref tA_orders, .ref tA_has, .int (nI t_tests), .ref tA_salt, .ref tA_crumbs, .long t_traced, .int t_hasSkin, .int t_hasBend])), (tA_doings, .inl (g.2.1 0, 2, .inl t_doings))] H → va_D A [(tA, .inr (5, [.int (nI t_length), .ref tA_text, .int (nI t_at), .int (nI t_begin), .int t_told, .ref tA_is, .ref tA_doings, .ref tA_doing, .int t_items, .ref tA_row, .ref tA_isKept, .int t_when, .int t_most, .int t_mostAt, .int t_hiss, .ref tA_best, .ref tA_heats, .ref tA_orders, .ref tA_has, .int (nI t_tests), .ref tA_salt, .ref tA_crumbs, .long t_traced, .int t_hasSkin, .int t_hasBend])), (tA_doings, .inl (g.2.1 0, 2, .inl t_doings))] → va_S A s.heap H locs → lv_has ls 2 [] → W p l e rX5_count s m args below meth c H locs 0 0 Q (F0 m 38 ls [.int v_1]) := by
    intro v_1 hE  H locs ls hP hD hS hl
    try rw [hE] at E
    exact RET v_1 () H locs _ _ (E.symm.trans hO) rfl hP hD hS dX5_count_38
  have E := E_2
  refine x_if_neI (tgt := 13) hx hb dX5_count_1 (by decide) (fun c_3 => ?_) (fun c_3 => ?_)
  · have E := x_neg E c_3
    refine lv_iload_n hx hb dX5_count_13 rfl (lv_at hl 1 rfl) ?_
    refine lv_iconst (v := 1) hx hb dX5_count_14 (by decide) ?_
    refine x_icmp_neI (tgt := 25) hx hb dX5_count_15 (by decide) (fun c_4 => ?_) (fun c_4 => ?_)
    · have E := x_neg E c_4
      refine lv_iload_n hx hb dX5_count_25 rfl (lv_at hl 1 rfl) ?_
      refine lv_iconst (v := 2) hx hb dX5_count_26 (by decide) ?_
      refine x_icmp_neI (tgt := 37) hx hb dX5_count_27 (by decide) (fun c_5 => ?_) (fun c_5 => ?_)
      · have E := x_neg E c_5
        refine lv_iconst (v := (-1)) hx hb dX5_count_37 (by decide) ?_
        exact J_2 (-1) E  H locs ls hP hD hS (lv_sub hl [] rfl)
      · have E := x_pos E c_5
        refine lv_aload_n hx hb dX5_count_30 rfl (lv_at hl 0 rfl) ?_
        refine va_get (ci := 5) (v := .int (nI t_length)) (C := RX5) (T := TX5) (N := 25) hx hb hts inlX5 hown hK.1 hP 0 rfl rfl 0 (by decide) (hts _ kw_128) (fun _ h9 => h9) rfl dX5_count_31 ?_
        refine lv_goto (tgt := 38) hx hb dX5_count_34 (by decide) ?_
        exact J_2 (nI t_length) E  H locs ls hP hD hS (lv_sub hl [] rfl)
    · have E := x_pos E c_4
      refine lv_aload_n hx hb dX5_count_18 rfl (lv_at hl 0 rfl) ?_
      refine va_get (ci := 5) (v := .int (nI t_tests)) (C := RX5) (T := TX5) (N := 25) hx hb hts inlX5 hown hK.1 hP 0 rfl rfl 19 (by decide) (hts _ kw_789) (fun _ h9 => h9) rfl dX5_count_19 ?_
      refine lv_goto (tgt := 38) hx hb dX5_count_22 (by decide) ?_
      exact J_2 (nI t_tests) E  H locs ls hP hD hS (lv_sub hl [] rfl)
  · have E := x_pos E c_3
    refine lv_aload_n hx hb dX5_count_4 rfl (lv_at hl 0 rfl) ?_
    refine va_get (ci := 5) (v := .ref tA_doings) (C := RX5) (T := TX5) (N := 25) hx hb hts inlX5 hown hK.1 hP 0 rfl rfl 6 (by decide) (hts _ kw_95) (fun _ h9 => h9) rfl dX5_count_5 ?_
    refine lv_iconst (v := 0) hx hb dX5_count_8 (by decide) ?_
    refine x_ialdN hx hb hK hP 1 0 rfl (by omega) (by decide) dX5_count_9 ?_
    refine lv_goto (tgt := 38) hx hb dX5_count_10 (by decide) ?_
    exact J_2 (t_doings 0) E  H locs ls hP hD hS (lv_sub hl [] rfl)
abbrev rX5_trace : Room := { frames := 0, cells := 0, slots := 0, locals := 0 }
theorem vX5_trace : yX5_trace.cls = RX5 ∧ yX5_trace.cls ≠ "java/lang/invoke/MethodHandle" ∧ yX5_trace.cls ≠ "java/lang/invoke/VarHandle" ∧ (parseMethodDescriptor yX5_trace.desc).map (fun d => d.parameters.length) = some 0 := by decide +kernel
abbrev wX5_trace : List Cond := Cond.code yX5_trace cX5_trace 1 (some .long) :: wsL_law
def F_X5_trace (t_traced : Int64) : Int64 :=
  t_traced
set_option maxHeartbeats 4000000 in
set_option maxRecDepth 100000 in
theorem m_X5_trace (l : Launch) (g : x_G) (tA tA_text tA_is tA_doings tA_doing tA_row tA_isKept tA_best tA_heats tA_orders tA_has tA_salt tA_crumbs : Nat) (t_length : Nat) (t_at : Nat) (t_begin : Nat) (t_told : Int32) (t_items : Int32) (t_when : Int32) (t_most : Int32) (t_mostAt : Int32) (t_hiss : Int32) (t_tests : Nat) (t_traced : Int64) (t_hasSkin : Int32) (t_hasBend : Int32) : x_MetL l yX5_trace wX5_trace rX5_trace g [.ref tA] [(tA, .inr (5, [.int (nI t_length), .ref tA_text, .int (nI t_at), .int (nI t_begin), .int t_told, .ref tA_is, .ref tA_doings, .ref tA_doing, .int t_items, .ref tA_row, .ref tA_isKept, .int t_when, .int t_most, .int t_mostAt, .int t_hiss, .ref tA_best, .ref tA_heats, .ref tA_orders, .ref tA_has, .int (nI t_tests), .ref tA_salt, .ref tA_crumbs, .long t_traced, .int t_hasSkin, .int t_hasBend]))] (fun (r : Int64) (u : Unit) => r = F_X5_trace t_traced) (fun _ => [(tA, .inr (5, [.int (nI t_length), .ref tA_text, .int (nI t_at), .int (nI t_begin), .int t_told, .ref tA_is, .ref tA_doings, .ref tA_doing, .int t_items, .ref tA_row, .ref tA_isKept, .int t_when, .int t_most, .int t_mostAt, .int t_hiss, .ref tA_best, .ref tA_heats, .ref tA_orders, .ref tA_has, .int (nI t_tests), .ref tA_salt, .ref tA_crumbs, .long t_traced, .int t_hasSkin, .int t_hasBend]))]) := by
  refine x_startL (cc := cX5_trace) (maxL := 1) (by decide) rfl (Nat.le_of_ble_eq_true rfl) ?_
  intro p e s m args below meth c Q A ls H locs hx hb hml hown hts hK hX hP hD hS hA hl RET
  have hown : s.vm.findClass RX5 = some m.cls := hown
  have hl : lv_has ls 1 [(0, .ref tA)] := hl
  obtain ⟨o_0, hO⟩ : ∃ z, z = F_X5_trace t_traced := ⟨_, rfl⟩
  have E := hO
  rw [F_X5_trace.eq_1] at E
  refine lv_aload_n hx hb dX5_trace_0 rfl (lv_at hl 0 rfl) ?_
  refine va_get (ci := 5) (v := .long t_traced) (C := RX5) (T := TX5) (N := 25) hx hb hts inlX5 hown hK.1 hP 0 rfl rfl 22 (by decide) (hts _ kw_847) (fun _ h9 => h9) rfl dX5_trace_1 ?_
  exact RET t_traced () H locs _ _ (E.symm.trans hO) hP hD hS dX5_trace_4
