abbrev rX5_blanks : Room := { frames := 0, cells := 0, slots := 0, locals := 0 }
theorem vX5_blanks : yX5_blanks.cls = RX5 ∧ yX5_blanks.cls ≠ "java/lang/invoke/MethodHandle" ∧ yX5_blanks.cls ≠ "java/lang/invoke/VarHandle" ∧ (parseMethodDescriptor yX5_blanks.desc).map (fun d => d.parameters.length) = some 0 := by decide +kernel
abbrev wX5_blanks : List Cond := Cond.code yX5_blanks cX5_blanks 1 none :: wsL_law
def F_X5_blanks_L0 (t_length : Nat) (t_text : Nat → Int32) : Nat → Nat → Nat
  | 0, t_at_3 => t_at_3
  | n_4 + 1, t_at_3 => if t_length ≤ t_at_3 then t_at_3 else if (t_text t_at_3) = 32 then F_X5_blanks_L0 t_length t_text n_4 (t_at_3 + 1) else t_at_3
def F_X5_blanks (t_length : Nat) (t_text : Nat → Int32) (t_at : Nat) : Nat × Nat :=
  x_nm (α := Nat) (F_X5_blanks_L0 t_length t_text 301 t_at) fun u_2 => (u_2, u_2)
set_option maxHeartbeats 4000000 in
set_option maxRecDepth 100000 in
theorem m_X5_blanks (l : Launch) (g : x_G) (tA tA_text tA_is tA_doings tA_doing tA_row tA_isKept tA_best tA_heats tA_orders tA_has tA_salt tA_crumbs : Nat) (t_length : Nat) (t_at : Nat) (t_begin : Nat) (t_told : Int32) (t_items : Int32) (t_when : Int32) (t_most : Int32) (t_mostAt : Int32) (t_hiss : Int32) (t_tests : Nat) (t_traced : Int64) (t_hasSkin : Int32) (t_hasBend : Int32) (t_text : Nat → Int32) (h_0 : t_length ≤ 300) (h_1 : t_at ≤ 300) : x_MetV l yX5_blanks wX5_blanks rX5_blanks g [.ref tA] [(tA, .inr (5, [.int (nI t_length), .ref tA_text, .int (nI t_at), .int (nI t_begin), .int t_told, .ref tA_is, .ref tA_doings, .ref tA_doing, .int t_items, .ref tA_row, .ref tA_isKept, .int t_when, .int t_most, .int t_mostAt, .int t_hiss, .ref tA_best, .ref tA_heats, .ref tA_orders, .ref tA_has, .int (nI t_tests), .ref tA_salt, .ref tA_crumbs, .long t_traced, .int t_hasSkin, .int t_hasBend])), (tA_text, .inl (g.2.1 2, 300, .inl t_text))] (fun u : Nat × Nat => (u = F_X5_blanks t_length t_text t_at) ∧ (u.1 ≤ 300) ∧ (u.2 = u.1) ∧ (t_at ≤ u.1)) (fun u => [(tA, .inr (5, [.int (nI t_length), .ref tA_text, .int (nI u.1), .int (nI u.2), .int t_told, .ref tA_is, .ref tA_doings, .ref tA_doing, .int t_items, .ref tA_row, .ref tA_isKept, .int t_when, .int t_most, .int t_mostAt, .int t_hiss, .ref tA_best, .ref tA_heats, .ref tA_orders, .ref tA_has, .int (nI t_tests), .ref tA_salt, .ref tA_crumbs, .long t_traced, .int t_hasSkin, .int t_hasBend])), (tA_text, .inl (g.2.1 2, 300, .inl t_text))]) := by
  refine x_startV (cc := cX5_blanks) (maxL := 1) (by decide) rfl (Nat.le_of_ble_eq_true rfl) ?_
  intro p e s m args below meth c Q A ls H locs hx hb hml hown hts hK hX hP hD hS hA hl RET
  have hown : s.vm.findClass RX5 = some m.cls := hown
  have hl : lv_has ls 1 [(0, .ref tA)] := hl
  obtain ⟨o_0, hO⟩ : ∃ z, z = F_X5_blanks t_length t_text t_at := ⟨_, rfl⟩
  have E := hO
  rw [F_X5_blanks.eq_1] at E
  obtain ⟨o_2, E_2, E⟩ := x_nm_ex E
  have J_2 : ∀ (t_at_1 : Nat), o_2 = t_at_1 → (t_at_1 ≤ 300) → (t_at ≤ t_at_1) → ∀ (H : Heap) (locs : List Loc) (ls : Array Slot), va_P g.1 vwCl [(tA, .inr (5, [.int (nI t_length), .ref tA_text, .int (nI t_at_1), .int (nI t_begin), .int t_told, .ref tA_is, .ref tA_doings, .ref tA_doing, .int t_items, .ref tA_row, .ref tA_isKept, .int t_when, .int t_most, .int t_mostAt, .int t_hiss, .ref tA_best, .ref tA_heats, .ref tA_orders, .ref tA_has, .int (nI t_tests), .ref tA_salt, .ref tA_crumbs, .long t_traced, .int t_hasSkin, .int t_hasBend])), (tA_text, .inl (g.2.1 2, 300, .inl t_text))] H → va_D A [(tA, .inr (5, [.int (nI t_length), .ref tA_text, .int (nI t_at_1), .int (nI t_begin), .int t_told, .ref tA_is, .ref tA_doings, .ref tA_doing, .int t_items, .ref tA_row, .ref tA_isKept, .int t_when, .int t_most, .int t_mostAt, .int t_hiss, .ref tA_best, .ref tA_heats, .ref tA_orders, .ref tA_has, .int (nI t_tests), .ref tA_salt, .ref tA_crumbs, .long t_traced, .int t_hasSkin, .int t_hasBend])), (tA_text, .inl (g.2.1 2, 300, .inl t_text))] → va_S A s.heap H locs → lv_has ls 1 [(0, .ref tA)] → W p l e rX5_blanks s m args below meth c H locs 0 0 Q (F0 m 38 ls []) := by
    intro t_at_1 hE f_2_0 f_2_1 H locs ls hP hD hS hl
    try rw [hE] at E
    refine lv_aload_n hx hb dX5_blanks_38 rfl (lv_at hl 0 rfl) ?_
    refine lv_aload_n hx hb dX5_blanks_39 rfl (lv_at hl 0 rfl) ?_
    refine va_get (ci := 5) (v := .int (nI t_at_1)) (C := RX5) (T := TX5) (N := 25) hx hb hts inlX5 hown hK.1 hP 0 rfl rfl 2 (by decide) (hts _ kw_286) (fun _ h9 => h9) rfl dX5_blanks_40 ?_
    refine va_put (ci := 5) (v := .int (nI t_at_1)) (ty := .int) (C := RX5) (T := TX5) (N := 25) hx hb hts inlX5 tyX5 tyX5_ok nmX5 hown hK.1 hP hD hS 0 rfl rfl 3 (by decide) (hts _ kw_289) (fun _ h9 => h9) rfl (tyX5_ok 3 (by decide)) rfl rfl (Nat.le_of_ble_eq_true rfl) dX5_blanks_43 (fun H locs hP hD hS => ?_)
    have hP : va_P g.1 vwCl [(tA, .inr (5, [.int (nI t_length), .ref tA_text, .int (nI t_at_1), .int (nI t_at_1), .int t_told, .ref tA_is, .ref tA_doings, .ref tA_doing, .int t_items, .ref tA_row, .ref tA_isKept, .int t_when, .int t_most, .int t_mostAt, .int t_hiss, .ref tA_best, .ref tA_heats, .ref tA_orders, .ref tA_has, .int (nI t_tests), .ref tA_salt, .ref tA_crumbs, .long t_traced, .int t_hasSkin, .int t_hasBend])), (tA_text, .inl (g.2.1 2, 300, .inl t_text))] H := hP
    have hD : va_D A [(tA, .inr (5, [.int (nI t_length), .ref tA_text, .int (nI t_at_1), .int (nI t_at_1), .int t_told, .ref tA_is, .ref tA_doings, .ref tA_doing, .int t_items, .ref tA_row, .ref tA_isKept, .int t_when, .int t_most, .int t_mostAt, .int t_hiss, .ref tA_best, .ref tA_heats, .ref tA_orders, .ref tA_has, .int (nI t_tests), .ref tA_salt, .ref tA_crumbs, .long t_traced, .int t_hasSkin, .int t_hasBend])), (tA_text, .inl (g.2.1 2, 300, .inl t_text))] := hD
    exact RET (t_at_1, t_at_1) H locs _ _ ⟨E.symm.trans hO, (show t_at_1 ≤ 300 by first | omega | assumption | exact Or.inl rfl | exact Or.inr (by omega)), (show t_at_1 = t_at_1 by first | omega | assumption | exact Or.inl rfl | exact Or.inr (by omega)), (show t_at ≤ t_at_1 by first | omega | assumption | exact Or.inl rfl | exact Or.inr (by omega))⟩ hP hD hS dX5_blanks_46
  have E := E_2
  have L_4 : ∀ (n_4 : Nat) (t_at_3 : Nat), (t_at_3 ≤ 300) → (t_at ≤ t_at_3) → ((300 - t_at_3) < n_4) → o_2 = F_X5_blanks_L0 t_length t_text n_4 t_at_3 → ∀ (H : Heap) (locs : List Loc) (ls : Array Slot), va_P g.1 vwCl [(tA, .inr (5, [.int (nI t_length), .ref tA_text, .int (nI t_at_3), .int (nI t_begin), .int t_told, .ref tA_is, .ref tA_doings, .ref tA_doing, .int t_items, .ref tA_row, .ref tA_isKept, .int t_when, .int t_most, .int t_mostAt, .int t_hiss, .ref tA_best, .ref tA_heats, .ref tA_orders, .ref tA_has, .int (nI t_tests), .ref tA_salt, .ref tA_crumbs, .long t_traced, .int t_hasSkin, .int t_hasBend])), (tA_text, .inl (g.2.1 2, 300, .inl t_text))] H → va_D A [(tA, .inr (5, [.int (nI t_length), .ref tA_text, .int (nI t_at_3), .int (nI t_begin), .int t_told, .ref tA_is, .ref tA_doings, .ref tA_doing, .int t_items, .ref tA_row, .ref tA_isKept, .int t_when, .int t_most, .int t_mostAt, .int t_hiss, .ref tA_best, .ref tA_heats, .ref tA_orders, .ref tA_has, .int (nI t_tests), .ref tA_salt, .ref tA_crumbs, .long t_traced, .int t_hasSkin, .int t_hasBend])), (tA_text, .inl (g.2.1 2, 300, .inl t_text))] → va_S A s.heap H locs → lv_has ls 1 [(0, .ref tA)] → W p l e rX5_blanks s m args below meth c H locs 0 0 Q (F0 m 0 ls []) := by
    intro n_4
    induction n_4 with
    | zero => intro t_at_3 i_4_0 i_4_1 i_4_2; exact absurd i_4_2 (by omega)
    | succ n_4 ih_4 =>
      intro t_at_3 i_4_0 i_4_1 i_4_2 E H locs ls hP hD hS hl
      rw [F_X5_blanks_L0.eq_2] at E
      refine lv_aload_n hx hb dX5_blanks_0 rfl (lv_at hl 0 rfl) ?_
      refine va_get (ci := 5) (v := .int (nI t_at_3)) (C := RX5) (T := TX5) (N := 25) hx hb hts inlX5 hown hK.1 hP 0 rfl rfl 2 (by decide) (hts _ kw_286) (fun _ h9 => h9) rfl dX5_blanks_1 ?_
      refine lv_aload_n hx hb dX5_blanks_4 rfl (lv_at hl 0 rfl) ?_
      refine va_get (ci := 5) (v := .int (nI t_length)) (C := RX5) (T := TX5) (N := 25) hx hb hts inlX5 hown hK.1 hP 0 rfl rfl 0 (by decide) (hts _ kw_128) (fun _ h9 => h9) rfl dX5_blanks_5 ?_
      refine x_icmp_ge (a := t_at_3) (b := t_length) (tgt := 38) hx hb (by omega) (by omega) dX5_blanks_8 (by decide) (fun c_5 => ?_) (fun c_5 => ?_)
      · have E := x_pos E c_5
        exact J_2 t_at_3 E (by first | omega | assumption | rfl | exact Or.inl rfl | exact Or.inr (by omega)) (by first | omega | assumption | rfl | exact Or.inl rfl | exact Or.inr (by omega)) H locs ls hP hD hS (lv_sub hl [0] rfl)
      · have E := x_neg E c_5
        refine lv_aload_n hx hb dX5_blanks_11 rfl (lv_at hl 0 rfl) ?_
        refine va_get (ci := 5) (v := .ref tA_text) (C := RX5) (T := TX5) (N := 25) hx hb hts inlX5 hown hK.1 hP 0 rfl rfl 1 (by decide) (hts _ kw_93) (fun _ h9 => h9) rfl dX5_blanks_12 ?_
        refine lv_aload_n hx hb dX5_blanks_15 rfl (lv_at hl 0 rfl) ?_
        refine va_get (ci := 5) (v := .int (nI t_at_3)) (C := RX5) (T := TX5) (N := 25) hx hb hts inlX5 hown hK.1 hP 0 rfl rfl 2 (by decide) (hts _ kw_286) (fun _ h9 => h9) rfl dX5_blanks_16 ?_
        refine x_baldN hx hb hK hP 1 t_at_3 rfl (by omega) (by decide) dX5_blanks_19 ?_
        refine lv_bipush (v := 32) hx hb dX5_blanks_20 (by decide) ?_
        refine x_icmp_neI (tgt := 38) hx hb dX5_blanks_22 (by decide) (fun c_6 => ?_) (fun c_6 => ?_)
        · have E := x_neg E c_6
          exact J_2 t_at_3 E (by first | omega | assumption | rfl | exact Or.inl rfl | exact Or.inr (by omega)) (by first | omega | assumption | rfl | exact Or.inl rfl | exact Or.inr (by omega)) H locs ls hP hD hS (lv_sub hl [0] rfl)
        · have E := x_pos E c_6
          refine lv_aload_n hx hb dX5_blanks_25 rfl (lv_at hl 0 rfl) ?_
          refine lv_dup hx hb dX5_blanks_26 rfl ?_
          refine va_get (ci := 5) (v := .int (nI t_at_3)) (C := RX5) (T := TX5) (N := 25) hx hb hts inlX5 hown hK.1 hP 0 rfl rfl 2 (by decide) (hts _ kw_286) (fun _ h9 => h9) rfl dX5_blanks_27 ?_
          refine lv_iconst (v := 1) hx hb dX5_blanks_30 (by decide) ?_
          refine lv_iadd hx hb dX5_blanks_31 ?_
          refine x_eqi (nI_add t_at_3 1) ?_
          refine va_put (ci := 5) (v := .int (nI (t_at_3 + 1))) (ty := .int) (C := RX5) (T := TX5) (N := 25) hx hb hts inlX5 tyX5 tyX5_ok nmX5 hown hK.1 hP hD hS 0 rfl rfl 2 (by decide) (hts _ kw_286) (fun _ h9 => h9) rfl (tyX5_ok 2 (by decide)) rfl rfl (Nat.le_of_ble_eq_true rfl) dX5_blanks_32 (fun H locs hP hD hS => ?_)
          have hP : va_P g.1 vwCl [(tA, .inr (5, [.int (nI t_length), .ref tA_text, .int (nI (t_at_3 + 1)), .int (nI t_begin), .int t_told, .ref tA_is, .ref tA_doings, .ref tA_doing, .int t_items, .ref tA_row, .ref tA_isKept, .int t_when, .int t_most, .int t_mostAt, .int t_hiss, .ref tA_best, .ref tA_heats, .ref tA_orders, .ref tA_has, .int (nI t_tests), .ref tA_salt, .ref tA_crumbs, .long t_traced, .int t_hasSkin, .int t_hasBend])), (tA_text, .inl (g.2.1 2, 300, .inl t_text))] H := hP
          have hD : va_D A [(tA, .inr (5, [.int (nI t_length), .ref tA_text, .int (nI (t_at_3 + 1)), .int (nI t_begin), .int t_told, .ref tA_is, .ref tA_doings, .ref tA_doing, .int t_items, .ref tA_row, .ref tA_isKept, .int t_when, .int t_most, .int t_mostAt, .int t_hiss, .ref tA_best, .ref tA_heats, .ref tA_orders, .ref tA_has, .int (nI t_tests), .ref tA_salt, .ref tA_crumbs, .long t_traced, .int t_hasSkin, .int t_hasBend])), (tA_text, .inl (g.2.1 2, 300, .inl t_text))] := hD
          refine lv_goto (tgt := 0) hx hb dX5_blanks_35 (by decide) ?_
          exact ih_4 (t_at_3 + 1) (by first | omega | assumption | exact Eq.trans (by assumption) (by assumption)) (by first | omega | assumption | exact Eq.trans (by assumption) (by assumption)) (by omega) E H locs ls hP hD hS (lv_sub hl [0] rfl)
  exact L_4 301 t_at (by first | omega | assumption | rfl) (by first | omega | assumption | rfl) (by omega) E H locs ls hP hD hS (lv_sub hl [0] rfl)
abbrev rX5_number : Room := { frames := 1, cells := 0, slots := 0, locals := 25 }
theorem vX5_number : yX5_number.cls = RX5 ∧ yX5_number.cls ≠ "java/lang/invoke/MethodHandle" ∧ yX5_number.cls ≠ "java/lang/invoke/VarHandle" ∧ (parseMethodDescriptor yX5_number.desc).map (fun d => d.parameters.length) = some 2 := by decide +kernel
abbrev wX5_number : List Cond := Cond.code yX5_number cX5_number 4 (some .boolean) :: wsL_law
def F_X5_number_L9 (t_length : Nat) (t_text : Nat → Int32) (t_begin_2 : Nat) : Nat → Nat → Int32 → Nat × Int32
  | 0, t_at_22, t_told_23 => (t_at_22, t_told_23)
  | n_24 + 1, t_at_22, t_told_23 => if t_length ≤ t_at_22 then (t_at_22, t_told_23) else x_nm (F_X5_in ((t_text t_at_22).toInt64) 48 57) fun z_26 => if z_26 = 0 then (t_at_22, t_told_23) else x_nm (α := Int32) (if 3 ≤ (t_at_22 - t_begin_2) then 1000 else ((10 * t_told_23) + (t_text t_at_22)) - 48) fun u_33 => F_X5_number_L9 t_length t_text t_begin_2 n_24 (t_at_22 + 1) u_33
def F_X5_number (t_length : Nat) (t_text : Nat → Int32) (t_at : Nat) (a1 : Int32) (a2 : Int32) : Int32 × Nat × Nat × Int32 :=
  x_nm (F_X5_blanks t_length t_text t_at) fun u_4 => x_nm (α := Nat × Int32) (F_X5_number_L9 t_length t_text u_4.2 301 u_4.1 0) fun u_7 => x_nm (α := Int32) (if u_7.1 ≤ u_4.2 then 0 else if (t_text u_4.2) = 48 then if u_7.1 = (u_4.2 + 1) then 1 else 0 else 1) fun u_9 => x_nm (α := Int32) (if u_9 = 0 then 0 else x_nm (F_X5_in u_7.2.toInt64 a1.toInt64 a2.toInt64) fun z_13 => if z_13 = 0 then 0 else 1) fun u_11 => (u_11, u_7.1, u_4.2, u_7.2)
set_option maxHeartbeats 4000000 in
set_option maxRecDepth 100000 in
theorem m_X5_number (l : Launch) (g : x_G) (tA tA_text tA_is tA_doings tA_doing tA_row tA_isKept tA_best tA_heats tA_orders tA_has tA_salt tA_crumbs : Nat) (t_length : Nat) (t_at : Nat) (t_begin : Nat) (t_told : Int32) (t_items : Int32) (t_when : Int32) (t_most : Int32) (t_mostAt : Int32) (t_hiss : Int32) (t_tests : Nat) (t_traced : Int64) (t_hasSkin : Int32) (t_hasBend : Int32) (t_text : Nat → Int32) (a1 : Int32) (a2 : Int32) (h_0 : t_length ≤ 300) (h_1 : t_at ≤ 300) : x_MetI l yX5_number wX5_number rX5_number g [.ref tA, .int a1, .int a2] [(tA, .inr (5, [.int (nI t_length), .ref tA_text, .int (nI t_at), .int (nI t_begin), .int t_told, .ref tA_is, .ref tA_doings, .ref tA_doing, .int t_items, .ref tA_row, .ref tA_isKept, .int t_when, .int t_most, .int t_mostAt, .int t_hiss, .ref tA_best, .ref tA_heats, .ref tA_orders, .ref tA_has, .int (nI t_tests), .ref tA_salt, .ref tA_crumbs, .long t_traced, .int t_hasSkin, .int t_hasBend])), (tA_text, .inl (g.2.1 2, 300, .inl t_text))] (fun (r : Int32) (u : Nat × Nat × Int32) => (((r, u) = F_X5_number t_length t_text t_at a1 a2) ∧ (r = 0 ∨ r = 1)) ∧ (u.1 ≤ 300) ∧ (u.2.1 ≤ u.1) ∧ (t_at ≤ u.1)) (fun u => [(tA, .inr (5, [.int (nI t_length), .ref tA_text, .int (nI u.1), .int (nI u.2.1), .int u.2.2, .ref tA_is, .ref tA_doings, .ref tA_doing, .int t_items, .ref tA_row, .ref tA_isKept, .int t_when, .int t_most, .int t_mostAt, .int t_hiss, .ref tA_best, .ref tA_heats, .ref tA_orders, .ref tA_has, .int (nI t_tests), .ref tA_salt, .ref tA_crumbs, .long t_traced, .int t_hasSkin, .int t_hasBend])), (tA_text, .inl (g.2.1 2, 300, .inl t_text))]) := by
  refine x_startI (cc := cX5_number) (maxL := 4) (by decide) rfl (Nat.le_of_ble_eq_true rfl) ?_
  intro p e s m args below meth c Q A ls H locs hx hb hml hown hts hK hX hP hD hS hA hl RET
  have hown : s.vm.findClass RX5 = some m.cls := hown
  have hl : lv_has ls 4 [(0, .ref tA), (1, .int a1), (2, .int a2)] := hl
  obtain ⟨o_0, hO⟩ : ∃ z, z = F_X5_number t_length t_text t_at a1 a2 := ⟨_, rfl⟩
  have E := hO
  rw [F_X5_number.eq_1] at E
  refine lv_aload_n hx hb dX5_number_0 rfl (lv_at hl 0 rfl) ?_
  refine x_callVv (w2 := fun u => [(tA, .inr (5, [.int (nI t_length), .ref tA_text, .int (nI u.1), .int (nI u.2), .int t_told, .ref tA_is, .ref tA_doings, .ref tA_doing, .int t_items, .ref tA_row, .ref tA_isKept, .int t_when, .int t_most, .int t_mostAt, .int t_hiss, .ref tA_best, .ref tA_heats, .ref tA_orders, .ref tA_has, .int (nI t_tests), .ref tA_salt, .ref tA_crumbs, .long t_traced, .int t_hasSkin, .int t_hasBend])), (tA_text, .inl (g.2.1 2, 300, .inl t_text))]) (wr := []) [0, 1] [] [0, 1] 0 5 ⟨hx, hb, hml, hown, hts⟩ hK hX hP hD hS hA (m_X5_blanks l g tA tA_text tA_is tA_doings tA_doing tA_row tA_isKept tA_best tA_heats tA_orders tA_has tA_salt tA_crumbs t_length t_at t_begin t_told t_items t_when t_most t_mostAt t_hiss t_tests t_traced t_hasSkin t_hasBend t_text (by first | assumption | omega | exact x_e8 (by assumption) (by assumption)) (by first | assumption | omega | exact x_e8 (by assumption) (by assumption))) (cwV 0 hts (x_gV kw_290 kw_291 kw_292 kw_5 kw_293) rfl rfl rfl vX5_blanks ⟨Nat.le_of_ble_eq_true rfl, Nat.le_of_ble_eq_true rfl⟩) rfl rfl rfl rfl rfl rfl rfl (by decide) (fun _ => rfl) rfl rfl hl.1 rfl (Nat.le_of_ble_eq_true rfl) dX5_number_1 ⟨Nat.zero_le _, Nat.zero_le _⟩ (fun u H locs hw_3 hP hD hS => ?_)
  obtain ⟨t_at_1, t_begin_2⟩ := u
  obtain ⟨hw_3, en_1_0, en_1_1, en_1_2⟩ := hw_3
  have en_1_0 : t_at_1 ≤ 300 := en_1_0
  have en_1_1 : t_begin_2 = t_at_1 := en_1_1
  have en_1_2 : t_at ≤ t_at_1 := en_1_2
  have hP : va_P g.1 vwCl [(tA, .inr (5, [.int (nI t_length), .ref tA_text, .int (nI t_at_1), .int (nI t_begin_2), .int t_told, .ref tA_is, .ref tA_doings, .ref tA_doing, .int t_items, .ref tA_row, .ref tA_isKept, .int t_when, .int t_most, .int t_mostAt, .int t_hiss, .ref tA_best, .ref tA_heats, .ref tA_orders, .ref tA_has, .int (nI t_tests), .ref tA_salt, .ref tA_crumbs, .long t_traced, .int t_hasSkin, .int t_hasBend])), (tA_text, .inl (g.2.1 2, 300, .inl t_text))] H := hP
  have hD : va_D A [(tA, .inr (5, [.int (nI t_length), .ref tA_text, .int (nI t_at_1), .int (nI t_begin_2), .int t_told, .ref tA_is, .ref tA_doings, .ref tA_doing, .int t_items, .ref tA_row, .ref tA_isKept, .int t_when, .int t_most, .int t_mostAt, .int t_hiss, .ref tA_best, .ref tA_heats, .ref tA_orders, .ref tA_has, .int (nI t_tests), .ref tA_salt, .ref tA_crumbs, .long t_traced, .int t_hasSkin, .int t_hasBend])), (tA_text, .inl (g.2.1 2, 300, .inl t_text))] := hD
  have E := x_nm_eq E hw_3
  refine lv_aload_n hx hb dX5_number_4 rfl (lv_at hl 0 rfl) ?_
  refine lv_iconst (v := 0) hx hb dX5_number_5 (by decide) ?_
  refine va_put (ci := 5) (v := .int 0) (ty := .int) (C := RX5) (T := TX5) (N := 25) hx hb hts inlX5 tyX5 tyX5_ok nmX5 hown hK.1 hP hD hS 0 rfl rfl 4 (by decide) (hts _ kw_316) (fun _ h9 => h9) rfl (tyX5_ok 4 (by decide)) rfl rfl (Nat.le_of_ble_eq_true rfl) dX5_number_6 (fun H locs hP hD hS => ?_)
  have hP : va_P g.1 vwCl [(tA, .inr (5, [.int (nI t_length), .ref tA_text, .int (nI t_at_1), .int (nI t_begin_2), .int 0, .ref tA_is, .ref tA_doings, .ref tA_doing, .int t_items, .ref tA_row, .ref tA_isKept, .int t_when, .int t_most, .int t_mostAt, .int t_hiss, .ref tA_best, .ref tA_heats, .ref tA_orders, .ref tA_has, .int (nI t_tests), .ref tA_salt, .ref tA_crumbs, .long t_traced, .int t_hasSkin, .int t_hasBend])), (tA_text, .inl (g.2.1 2, 300, .inl t_text))] H := hP
  have hD : va_D A [(tA, .inr (5, [.int (nI t_length), .ref tA_text, .int (nI t_at_1), .int (nI t_begin_2), .int 0, .ref tA_is, .ref tA_doings, .ref tA_doing, .int t_items, .ref tA_row, .ref tA_isKept, .int t_when, .int t_most, .int t_mostAt, .int t_hiss, .ref tA_best, .ref tA_heats, .ref tA_orders, .ref tA_has, .int (nI t_tests), .ref tA_salt, .ref tA_crumbs, .long t_traced, .int t_hasSkin, .int t_hasBend])), (tA_text, .inl (g.2.1 2, 300, .inl t_text))] := hD
  obtain ⟨o_7, E_7, E⟩ := x_nm_ex E
  have J_7 : ∀ (t_at_5 : Nat) (t_told_6 : Int32), o_7 = (t_at_5, t_told_6) → (t_at_5 ≤ 300) → (t_begin_2 ≤ t_at_5) → (t_at ≤ t_at_5) → ∀ (H : Heap) (locs : List Loc) (ls : Array Slot), va_P g.1 vwCl [(tA, .inr (5, [.int (nI t_length), .ref tA_text, .int (nI t_at_5), .int (nI t_begin_2), .int t_told_6, .ref tA_is, .ref tA_doings, .ref tA_doing, .int t_items, .ref tA_row, .ref tA_isKept, .int t_when, .int t_most, .int t_mostAt, .int t_hiss, .ref tA_best, .ref tA_heats, .ref tA_orders, .ref tA_has, .int (nI t_tests), .ref tA_salt, .ref tA_crumbs, .long t_traced, .int t_hasSkin, .int t_hasBend])), (tA_text, .inl (g.2.1 2, 300, .inl t_text))] H → va_D A [(tA, .inr (5, [.int (nI t_length), .ref tA_text, .int (nI t_at_5), .int (nI t_begin_2), .int t_told_6, .ref tA_is, .ref tA_doings, .ref tA_doing, .int t_items, .ref tA_row, .ref tA_isKept, .int t_when, .int t_most, .int t_mostAt, .int t_hiss, .ref tA_best, .ref tA_heats, .ref tA_orders, .ref tA_has, .int (nI t_tests), .ref tA_salt, .ref tA_crumbs, .long t_traced, .int t_hasSkin, .int t_hasBend])), (tA_text, .inl (g.2.1 2, 300, .inl t_text))] → va_S A s.heap H locs → lv_has ls 4 [(0, .ref tA), (1, .int a1), (2, .int a2)] → W p l e rX5_number s m args below meth c H locs 0 0 Q (F0 m 98 ls []) := by
    intro t_at_5 t_told_6 hE f_7_0 f_7_1 f_7_2 H locs ls hP hD hS hl
    try rw [hE] at E
    refine lv_aload_n hx hb dX5_number_98 rfl (lv_at hl 0 rfl) ?_
    refine va_get (ci := 5) (v := .int (nI t_at_5)) (C := RX5) (T := TX5) (N := 25) hx hb hts inlX5 hown hK.1 hP 0 rfl rfl 2 (by decide) (hts _ kw_286) (fun _ h9 => h9) rfl dX5_number_99 ?_
    refine lv_aload_n hx hb dX5_number_102 rfl (lv_at hl 0 rfl) ?_
    refine va_get (ci := 5) (v := .int (nI t_begin_2)) (C := RX5) (T := TX5) (N := 25) hx hb hts inlX5 hown hK.1 hP 0 rfl rfl 3 (by decide) (hts _ kw_289) (fun _ h9 => h9) rfl dX5_number_103 ?_
    obtain ⟨o_9, E_9, E⟩ := x_nm_ex E
    have J_9 : ∀ (v_8 : Int32), o_9 = v_8 → ∀ (H : Heap) (locs : List Loc) (ls : Array Slot), va_P g.1 vwCl [(tA, .inr (5, [.int (nI t_length), .ref tA_text, .int (nI t_at_5), .int (nI t_begin_2), .int t_told_6, .ref tA_is, .ref tA_doings, .ref tA_doing, .int t_items, .ref tA_row, .ref tA_isKept, .int t_when, .int t_most, .int t_mostAt, .int t_hiss, .ref tA_best, .ref tA_heats, .ref tA_orders, .ref tA_has, .int (nI t_tests), .ref tA_salt, .ref tA_crumbs, .long t_traced, .int t_hasSkin, .int t_hasBend])), (tA_text, .inl (g.2.1 2, 300, .inl t_text))] H → va_D A [(tA, .inr (5, [.int (nI t_length), .ref tA_text, .int (nI t_at_5), .int (nI t_begin_2), .int t_told_6, .ref tA_is, .ref tA_doings, .ref tA_doing, .int t_items, .ref tA_row, .ref tA_isKept, .int t_when, .int t_most, .int t_mostAt, .int t_hiss, .ref tA_best, .ref tA_heats, .ref tA_orders, .ref tA_has, .int (nI t_tests), .ref tA_salt, .ref tA_crumbs, .long t_traced, .int t_hasSkin, .int t_hasBend])), (tA_text, .inl (g.2.1 2, 300, .inl t_text))] → va_S A s.heap H locs → lv_has ls 4 [(0, .ref tA), (1, .int a1), (2, .int a2)] → W p l e rX5_number s m args below meth c H locs 0 0 Q (F0 m 141 ls [.int v_8]) := by
      intro v_8 hE  H locs ls hP hD hS hl
      try rw [hE] at E
      refine lv_istore_n (lv' := [(3, .int v_8), (0, .ref tA), (1, .int a1), (2, .int a2)]) hx hb dX5_number_141 rfl hl (by decide) rfl (fun ls hl => ?_)
      refine lv_iload_n hx hb dX5_number_142 rfl (lv_at hl 0 rfl) ?_
      obtain ⟨o_11, E_11, E⟩ := x_nm_ex E
      have J_11 : ∀ (v_10 : Int32), o_11 = v_10 → (v_10 = 0 ∨ v_10 = 1) → ∀ (H : Heap) (locs : List Loc) (ls : Array Slot), va_P g.1 vwCl [(tA, .inr (5, [.int (nI t_length), .ref tA_text, .int (nI t_at_5), .int (nI t_begin_2), .int t_told_6, .ref tA_is, .ref tA_doings, .ref tA_doing, .int t_items, .ref tA_row, .ref tA_isKept, .int t_when, .int t_most, .int t_mostAt, .int t_hiss, .ref tA_best, .ref tA_heats, .ref tA_orders, .ref tA_has, .int (nI t_tests), .ref tA_salt, .ref tA_crumbs, .long t_traced, .int t_hasSkin, .int t_hasBend])), (tA_text, .inl (g.2.1 2, 300, .inl t_text))] H → va_D A [(tA, .inr (5, [.int (nI t_length), .ref tA_text, .int (nI t_at_5), .int (nI t_begin_2), .int t_told_6, .ref tA_is, .ref tA_doings, .ref tA_doing, .int t_items, .ref tA_row, .ref tA_isKept, .int t_when, .int t_most, .int t_mostAt, .int t_hiss, .ref tA_best, .ref tA_heats, .ref tA_orders, .ref tA_has, .int (nI t_tests), .ref tA_salt, .ref tA_crumbs, .long t_traced, .int t_hasSkin, .int t_hasBend])), (tA_text, .inl (g.2.1 2, 300, .inl t_text))] → va_S A s.heap H locs → lv_has ls 4 [] → W p l e rX5_number s m args below meth c H locs 0 0 Q (F0 m 166 ls [.int v_10]) := by
        intro v_10 hE f_11_0 H locs ls hP hD hS hl
        try rw [hE] at E
        exact RET v_10 (t_at_5, t_begin_2, t_told_6) H locs _ _ ⟨⟨E.symm.trans hO, (by assumption)⟩, (show t_at_5 ≤ 300 by first | omega | assumption | exact Or.inl rfl | exact Or.inr (by omega)), (show t_begin_2 ≤ t_at_5 by first | omega | assumption | exact Or.inl rfl | exact Or.inr (by omega)), (show t_at ≤ t_at_5 by first | omega | assumption | exact Or.inl rfl | exact Or.inr (by omega))⟩ (x_nar (by assumption)) hP hD hS dX5_number_166
      have E := E_11
      refine lv_if_eq (tgt := 165) hx hb dX5_number_143 (by decide) (fun c_12 => ?_) (fun c_12 => ?_)
      · have E := x_pos E c_12
        refine lv_iconst (v := 0) hx hb dX5_number_165 (by decide) ?_
        exact J_11 0 E (Or.inl rfl) H locs ls hP hD hS (lv_sub hl [] rfl)
      · have E := x_neg E c_12
        refine lv_aload_n hx hb dX5_number_146 rfl (lv_at hl 1 rfl) ?_
        refine va_get (ci := 5) (v := .int t_told_6) (C := RX5) (T := TX5) (N := 25) hx hb hts inlX5 hown hK.1 hP 0 rfl rfl 4 (by decide) (hts _ kw_316) (fun _ h9 => h9) rfl dX5_number_147 ?_
        refine lv_i2l (v := t_told_6.toInt64) hx hb dX5_number_150 rfl ?_
        refine lv_iload_n hx hb dX5_number_151 rfl (lv_at hl 2 rfl) ?_
        refine lv_i2l (v := a1.toInt64) hx hb dX5_number_152 rfl ?_
        refine lv_iload_n hx hb dX5_number_153 rfl (lv_at hl 3 rfl) ?_
        refine lv_i2l (v := a2.toInt64) hx hb dX5_number_154 rfl ?_
        refine x_callS0 ⟨hx, hb, hml, hown, hts⟩ hK hX hP hD hS hA (m_X5_in l g t_told_6.toInt64 a1.toInt64 a2.toInt64) (va_cwS 3 hts (x_gS kw_129 kw_130 kw_5 kw_131) rfl rfl rfl vX5_inS ⟨Nat.le_of_ble_eq_true rfl, Nat.le_of_ble_eq_true rfl⟩) rfl hl.1 rfl (Nat.le_of_ble_eq_true rfl) dX5_number_155 ⟨Nat.zero_le _, Nat.zero_le _⟩ (fun z_13 _ H locs hw_14 hP hD hS => ?_)
        obtain ⟨hw_14, b_15⟩ := hw_14
        have E := x_nm_eq E hw_14
        refine lv_if_eq (tgt := 165) hx hb dX5_number_158 (by decide) (fun c_17 => ?_) (fun c_17 => ?_)
        · have E := x_pos E c_17
          refine lv_iconst (v := 0) hx hb dX5_number_165 (by decide) ?_
          exact J_11 0 E (Or.inl rfl) H locs ls hP hD hS (lv_sub hl [] rfl)
        · have E := x_neg E c_17
          refine lv_iconst (v := 1) hx hb dX5_number_161 (by decide) ?_
          refine lv_goto (tgt := 166) hx hb dX5_number_162 (by decide) ?_
          exact J_11 1 E (Or.inr rfl) H locs ls hP hD hS (lv_sub hl [] rfl)
    have E := E_9
    refine x_icmp_le (a := t_at_5) (b := t_begin_2) (tgt := 140) hx hb (by omega) (by omega) dX5_number_106 (by decide) (fun c_19 => ?_) (fun c_19 => ?_)
    · have E := x_pos E c_19
      refine lv_iconst (v := 0) hx hb dX5_number_140 (by decide) ?_
      exact J_9 0 E  H locs ls hP hD hS (lv_sub hl [0, 1, 2] rfl)
    · have E := x_neg E c_19
      refine lv_aload_n hx hb dX5_number_109 rfl (lv_at hl 0 rfl) ?_
      refine va_get (ci := 5) (v := .ref tA_text) (C := RX5) (T := TX5) (N := 25) hx hb hts inlX5 hown hK.1 hP 0 rfl rfl 1 (by decide) (hts _ kw_93) (fun _ h9 => h9) rfl dX5_number_110 ?_
      refine lv_aload_n hx hb dX5_number_113 rfl (lv_at hl 0 rfl) ?_
      refine va_get (ci := 5) (v := .int (nI t_begin_2)) (C := RX5) (T := TX5) (N := 25) hx hb hts inlX5 hown hK.1 hP 0 rfl rfl 3 (by decide) (hts _ kw_289) (fun _ h9 => h9) rfl dX5_number_114 ?_
      refine x_baldN hx hb hK hP 1 t_begin_2 rfl (by omega) (by decide) dX5_number_117 ?_
      refine lv_bipush (v := 48) hx hb dX5_number_118 (by decide) ?_
      refine x_icmp_neI (tgt := 136) hx hb dX5_number_120 (by decide) (fun c_20 => ?_) (fun c_20 => ?_)
      · have E := x_neg E c_20
        refine lv_iconst (v := 1) hx hb dX5_number_136 (by decide) ?_
        refine lv_goto (tgt := 141) hx hb dX5_number_137 (by decide) ?_
        exact J_9 1 E  H locs ls hP hD hS (lv_sub hl [0, 1, 2] rfl)
      · have E := x_pos E c_20
        refine lv_aload_n hx hb dX5_number_123 rfl (lv_at hl 0 rfl) ?_
        refine va_get (ci := 5) (v := .int (nI t_at_5)) (C := RX5) (T := TX5) (N := 25) hx hb hts inlX5 hown hK.1 hP 0 rfl rfl 2 (by decide) (hts _ kw_286) (fun _ h9 => h9) rfl dX5_number_124 ?_
        refine lv_aload_n hx hb dX5_number_127 rfl (lv_at hl 0 rfl) ?_
        refine va_get (ci := 5) (v := .int (nI t_begin_2)) (C := RX5) (T := TX5) (N := 25) hx hb hts inlX5 hown hK.1 hP 0 rfl rfl 3 (by decide) (hts _ kw_289) (fun _ h9 => h9) rfl dX5_number_128 ?_
        refine lv_iconst (v := 1) hx hb dX5_number_131 (by decide) ?_
        refine lv_iadd hx hb dX5_number_132 ?_
        refine x_eqi (nI_add t_begin_2 1) ?_
        refine x_icmp_ne (a := t_at_5) (b := (t_begin_2 + 1)) (tgt := 140) hx hb (by omega) (by omega) dX5_number_133 (by decide) (fun c_21 => ?_) (fun c_21 => ?_)
        · have E := x_neg E c_21
          refine lv_iconst (v := 0) hx hb dX5_number_140 (by decide) ?_
          exact J_9 0 E  H locs ls hP hD hS (lv_sub hl [0, 1, 2] rfl)
        · have E := x_pos E c_21
          refine lv_iconst (v := 1) hx hb dX5_number_136 (by decide) ?_
          refine lv_goto (tgt := 141) hx hb dX5_number_137 (by decide) ?_
          exact J_9 1 E  H locs ls hP hD hS (lv_sub hl [0, 1, 2] rfl)
  have E := E_7
  have L_24 : ∀ (n_24 : Nat) (t_at_22 : Nat) (t_told_23 : Int32), (t_at_22 ≤ 300) → (t_begin_2 ≤ t_at_22) → (t_at ≤ t_at_22) → ((300 - t_at_22) < n_24) → o_7 = F_X5_number_L9 t_length t_text t_begin_2 n_24 t_at_22 t_told_23 → ∀ (H : Heap) (locs : List Loc) (ls : Array Slot), va_P g.1 vwCl [(tA, .inr (5, [.int (nI t_length), .ref tA_text, .int (nI t_at_22), .int (nI t_begin_2), .int t_told_23, .ref tA_is, .ref tA_doings, .ref tA_doing, .int t_items, .ref tA_row, .ref tA_isKept, .int t_when, .int t_most, .int t_mostAt, .int t_hiss, .ref tA_best, .ref tA_heats, .ref tA_orders, .ref tA_has, .int (nI t_tests), .ref tA_salt, .ref tA_crumbs, .long t_traced, .int t_hasSkin, .int t_hasBend])), (tA_text, .inl (g.2.1 2, 300, .inl t_text))] H → va_D A [(tA, .inr (5, [.int (nI t_length), .ref tA_text, .int (nI t_at_22), .int (nI t_begin_2), .int t_told_23, .ref tA_is, .ref tA_doings, .ref tA_doing, .int t_items, .ref tA_row, .ref tA_isKept, .int t_when, .int t_most, .int t_mostAt, .int t_hiss, .ref tA_best, .ref tA_heats, .ref tA_orders, .ref tA_has, .int (nI t_tests), .ref tA_salt, .ref tA_crumbs, .long t_traced, .int t_hasSkin, .int t_hasBend])), (tA_text, .inl (g.2.1 2, 300, .inl t_text))] → va_S A s.heap H locs → lv_has ls 4 [(0, .ref tA), (1, .int a1), (2, .int a2)] → W p l e rX5_number s m args below meth c H locs 0 0 Q (F0 m 9 ls []) := by
    intro n_24
    induction n_24 with
    | zero => intro t_at_22 t_told_23 i_24_0 i_24_1 i_24_2 i_24_3; exact absurd i_24_3 (by omega)
    | succ n_24 ih_24 =>
      intro t_at_22 t_told_23 i_24_0 i_24_1 i_24_2 i_24_3 E H locs ls hP hD hS hl
      rw [F_X5_number_L9.eq_2] at E
      refine lv_aload_n hx hb dX5_number_9 rfl (lv_at hl 0 rfl) ?_
      refine va_get (ci := 5) (v := .int (nI t_at_22)) (C := RX5) (T := TX5) (N := 25) hx hb hts inlX5 hown hK.1 hP 0 rfl rfl 2 (by decide) (hts _ kw_286) (fun _ h9 => h9) rfl dX5_number_10 ?_
      refine lv_aload_n hx hb dX5_number_13 rfl (lv_at hl 0 rfl) ?_
      refine va_get (ci := 5) (v := .int (nI t_length)) (C := RX5) (T := TX5) (N := 25) hx hb hts inlX5 hown hK.1 hP 0 rfl rfl 0 (by decide) (hts _ kw_128) (fun _ h9 => h9) rfl dX5_number_14 ?_
      refine x_icmp_ge (a := t_at_22) (b := t_length) (tgt := 98) hx hb (by omega) (by omega) dX5_number_17 (by decide) (fun c_25 => ?_) (fun c_25 => ?_)
      · have E := x_pos E c_25
        exact J_7 t_at_22 t_told_23 E (by first | omega | assumption | rfl | exact Or.inl rfl | exact Or.inr (by omega)) (by first | omega | assumption | rfl | exact Or.inl rfl | exact Or.inr (by omega)) (by first | omega | assumption | rfl | exact Or.inl rfl | exact Or.inr (by omega)) H locs ls hP hD hS (lv_sub hl [0, 1, 2] rfl)
      · have E := x_neg E c_25
        refine lv_aload_n hx hb dX5_number_20 rfl (lv_at hl 0 rfl) ?_
        refine va_get (ci := 5) (v := .ref tA_text) (C := RX5) (T := TX5) (N := 25) hx hb hts inlX5 hown hK.1 hP 0 rfl rfl 1 (by decide) (hts _ kw_93) (fun _ h9 => h9) rfl dX5_number_21 ?_
        refine lv_aload_n hx hb dX5_number_24 rfl (lv_at hl 0 rfl) ?_
        refine va_get (ci := 5) (v := .int (nI t_at_22)) (C := RX5) (T := TX5) (N := 25) hx hb hts inlX5 hown hK.1 hP 0 rfl rfl 2 (by decide) (hts _ kw_286) (fun _ h9 => h9) rfl dX5_number_25 ?_
        refine x_baldN hx hb hK hP 1 t_at_22 rfl (by omega) (by decide) dX5_number_28 ?_
        refine lv_i2l (v := (t_text t_at_22).toInt64) hx hb dX5_number_29 rfl ?_
        refine lv_ldc2 (v := 48) hx hb hown (hts _ kw_324) dX5_number_30 ?_
        refine lv_ldc2 (v := 57) hx hb hown (hts _ kw_325) dX5_number_33 ?_
        refine x_callS0 ⟨hx, hb, hml, hown, hts⟩ hK hX hP hD hS hA (m_X5_in l g ((t_text t_at_22).toInt64) 48 57) (va_cwS 3 hts (x_gS kw_129 kw_130 kw_5 kw_131) rfl rfl rfl vX5_inS ⟨Nat.le_of_ble_eq_true rfl, Nat.le_of_ble_eq_true rfl⟩) rfl hl.1 rfl (Nat.le_of_ble_eq_true rfl) dX5_number_36 ⟨Nat.zero_le _, Nat.zero_le _⟩ (fun z_26 _ H locs hw_27 hP hD hS => ?_)
        obtain ⟨hw_27, b_28⟩ := hw_27
        have E := x_nm_eq E hw_27
        refine lv_if_eq (tgt := 98) hx hb dX5_number_39 (by decide) (fun c_30 => ?_) (fun c_30 => ?_)
        · have E := x_pos E c_30
          exact J_7 t_at_22 t_told_23 E (by first | omega | assumption | rfl | exact Or.inl rfl | exact Or.inr (by omega)) (by first | omega | assumption | rfl | exact Or.inl rfl | exact Or.inr (by omega)) (by first | omega | assumption | rfl | exact Or.inl rfl | exact Or.inr (by omega)) H locs ls hP hD hS (lv_sub hl [0, 1, 2] rfl)
        · have E := x_neg E c_30
          refine lv_aload_n hx hb dX5_number_42 rfl (lv_at hl 0 rfl) ?_
          refine lv_aload_n hx hb dX5_number_43 rfl (lv_at hl 0 rfl) ?_
          refine va_get (ci := 5) (v := .int (nI t_at_22)) (C := RX5) (T := TX5) (N := 25) hx hb hts inlX5 hown hK.1 hP 0 rfl rfl 2 (by decide) (hts _ kw_286) (fun _ h9 => h9) rfl dX5_number_44 ?_
          refine lv_aload_n hx hb dX5_number_47 rfl (lv_at hl 0 rfl) ?_
          refine va_get (ci := 5) (v := .int (nI t_begin_2)) (C := RX5) (T := TX5) (N := 25) hx hb hts inlX5 hown hK.1 hP 0 rfl rfl 3 (by decide) (hts _ kw_289) (fun _ h9 => h9) rfl dX5_number_48 ?_
          refine lv_isub hx hb dX5_number_51 ?_
          refine x_eqi (pk_sub (a := t_at_22) (b := t_begin_2) (by omega)) ?_
          refine lv_iconst (v := 3) hx hb dX5_number_52 (by decide) ?_
          obtain ⟨o_33, E_33, E⟩ := x_nm_ex E
          have J_33 : ∀ (v_32 : Int32), o_33 = v_32 → ∀ (H : Heap) (locs : List Loc) (ls : Array Slot), va_P g.1 vwCl [(tA, .inr (5, [.int (nI t_length), .ref tA_text, .int (nI t_at_22), .int (nI t_begin_2), .int t_told_23, .ref tA_is, .ref tA_doings, .ref tA_doing, .int t_items, .ref tA_row, .ref tA_isKept, .int t_when, .int t_most, .int t_mostAt, .int t_hiss, .ref tA_best, .ref tA_heats, .ref tA_orders, .ref tA_has, .int (nI t_tests), .ref tA_salt, .ref tA_crumbs, .long t_traced, .int t_hasSkin, .int t_hasBend])), (tA_text, .inl (g.2.1 2, 300, .inl t_text))] H → va_D A [(tA, .inr (5, [.int (nI t_length), .ref tA_text, .int (nI t_at_22), .int (nI t_begin_2), .int t_told_23, .ref tA_is, .ref tA_doings, .ref tA_doing, .int t_items, .ref tA_row, .ref tA_isKept, .int t_when, .int t_most, .int t_mostAt, .int t_hiss, .ref tA_best, .ref tA_heats, .ref tA_orders, .ref tA_has, .int (nI t_tests), .ref tA_salt, .ref tA_crumbs, .long t_traced, .int t_hasSkin, .int t_hasBend])), (tA_text, .inl (g.2.1 2, 300, .inl t_text))] → va_S A s.heap H locs → lv_has ls 4 [(0, .ref tA), (1, .int a1), (2, .int a2)] → W p l e rX5_number s m args below meth c H locs 0 0 Q (F0 m 82 ls [.int v_32, .ref tA]) := by
            intro v_32 hE  H locs ls hP hD hS hl
            try rw [hE] at E
            refine va_put (ci := 5) (v := .int v_32) (ty := .int) (C := RX5) (T := TX5) (N := 25) hx hb hts inlX5 tyX5 tyX5_ok nmX5 hown hK.1 hP hD hS 0 rfl rfl 4 (by decide) (hts _ kw_316) (fun _ h9 => h9) rfl (tyX5_ok 4 (by decide)) rfl rfl (Nat.le_of_ble_eq_true rfl) dX5_number_82 (fun H locs hP hD hS => ?_)
            have hP : va_P g.1 vwCl [(tA, .inr (5, [.int (nI t_length), .ref tA_text, .int (nI t_at_22), .int (nI t_begin_2), .int v_32, .ref tA_is, .ref tA_doings, .ref tA_doing, .int t_items, .ref tA_row, .ref tA_isKept, .int t_when, .int t_most, .int t_mostAt, .int t_hiss, .ref tA_best, .ref tA_heats, .ref tA_orders, .ref tA_has, .int (nI t_tests), .ref tA_salt, .ref tA_crumbs, .long t_traced, .int t_hasSkin, .int t_hasBend])), (tA_text, .inl (g.2.1 2, 300, .inl t_text))] H := hP
            have hD : va_D A [(tA, .inr (5, [.int (nI t_length), .ref tA_text, .int (nI t_at_22), .int (nI t_begin_2), .int v_32, .ref tA_is, .ref tA_doings, .ref tA_doing, .int t_items, .ref tA_row, .ref tA_isKept, .int t_when, .int t_most, .int t_mostAt, .int t_hiss, .ref tA_best, .ref tA_heats, .ref tA_orders, .ref tA_has, .int (nI t_tests), .ref tA_salt, .ref tA_crumbs, .long t_traced, .int t_hasSkin, .int t_hasBend])), (tA_text, .inl (g.2.1 2, 300, .inl t_text))] := hD
            refine lv_aload_n hx hb dX5_number_85 rfl (lv_at hl 0 rfl) ?_
            refine lv_dup hx hb dX5_number_86 rfl ?_
            refine va_get (ci := 5) (v := .int (nI t_at_22)) (C := RX5) (T := TX5) (N := 25) hx hb hts inlX5 hown hK.1 hP 0 rfl rfl 2 (by decide) (hts _ kw_286) (fun _ h9 => h9) rfl dX5_number_87 ?_
            refine lv_iconst (v := 1) hx hb dX5_number_90 (by decide) ?_
            refine lv_iadd hx hb dX5_number_91 ?_
            refine x_eqi (nI_add t_at_22 1) ?_
            refine va_put (ci := 5) (v := .int (nI (t_at_22 + 1))) (ty := .int) (C := RX5) (T := TX5) (N := 25) hx hb hts inlX5 tyX5 tyX5_ok nmX5 hown hK.1 hP hD hS 0 rfl rfl 2 (by decide) (hts _ kw_286) (fun _ h9 => h9) rfl (tyX5_ok 2 (by decide)) rfl rfl (Nat.le_of_ble_eq_true rfl) dX5_number_92 (fun H locs hP hD hS => ?_)
            have hP : va_P g.1 vwCl [(tA, .inr (5, [.int (nI t_length), .ref tA_text, .int (nI (t_at_22 + 1)), .int (nI t_begin_2), .int v_32, .ref tA_is, .ref tA_doings, .ref tA_doing, .int t_items, .ref tA_row, .ref tA_isKept, .int t_when, .int t_most, .int t_mostAt, .int t_hiss, .ref tA_best, .ref tA_heats, .ref tA_orders, .ref tA_has, .int (nI t_tests), .ref tA_salt, .ref tA_crumbs, .long t_traced, .int t_hasSkin, .int t_hasBend])), (tA_text, .inl (g.2.1 2, 300, .inl t_text))] H := hP
            have hD : va_D A [(tA, .inr (5, [.int (nI t_length), .ref tA_text, .int (nI (t_at_22 + 1)), .int (nI t_begin_2), .int v_32, .ref tA_is, .ref tA_doings, .ref tA_doing, .int t_items, .ref tA_row, .ref tA_isKept, .int t_when, .int t_most, .int t_mostAt, .int t_hiss, .ref tA_best, .ref tA_heats, .ref tA_orders, .ref tA_has, .int (nI t_tests), .ref tA_salt, .ref tA_crumbs, .long t_traced, .int t_hasSkin, .int t_hasBend])), (tA_text, .inl (g.2.1 2, 300, .inl t_text))] := hD
            refine lv_goto (tgt := 9) hx hb dX5_number_95 (by decide) ?_
            exact ih_24 (t_at_22 + 1) v_32 (by first | omega | assumption | exact Eq.trans (by assumption) (by assumption)) (by first | omega | assumption | exact Eq.trans (by assumption) (by assumption)) (by first | omega | assumption | exact Eq.trans (by assumption) (by assumption)) (by omega) E H locs ls hP hD hS (lv_sub hl [0, 1, 2] rfl)
          have E := E_33
          refine x_icmp_ge (a := (t_at_22 - t_begin_2)) (b := 3) (tgt := 79) hx hb (by omega) (by omega) dX5_number_53 (by decide) (fun c_34 => ?_) (fun c_34 => ?_)
          · have E := x_pos E c_34
            refine lv_sipush (v := 1000) hx hb dX5_number_79 (by decide) ?_
            exact J_33 1000 E  H locs ls hP hD hS (lv_sub hl [0, 1, 2] rfl)
          · have E := x_neg E c_34
            refine lv_bipush (v := 10) hx hb dX5_number_56 (by decide) ?_
            refine lv_aload_n hx hb dX5_number_58 rfl (lv_at hl 0 rfl) ?_
            refine va_get (ci := 5) (v := .int t_told_23) (C := RX5) (T := TX5) (N := 25) hx hb hts inlX5 hown hK.1 hP 0 rfl rfl 4 (by decide) (hts _ kw_316) (fun _ h9 => h9) rfl dX5_number_59 ?_
            refine lv_imul hx hb dX5_number_62 ?_
            refine lv_aload_n hx hb dX5_number_63 rfl (lv_at hl 0 rfl) ?_
            refine va_get (ci := 5) (v := .ref tA_text) (C := RX5) (T := TX5) (N := 25) hx hb hts inlX5 hown hK.1 hP 0 rfl rfl 1 (by decide) (hts _ kw_93) (fun _ h9 => h9) rfl dX5_number_64 ?_
            refine lv_aload_n hx hb dX5_number_67 rfl (lv_at hl 0 rfl) ?_
            refine va_get (ci := 5) (v := .int (nI t_at_22)) (C := RX5) (T := TX5) (N := 25) hx hb hts inlX5 hown hK.1 hP 0 rfl rfl 2 (by decide) (hts _ kw_286) (fun _ h9 => h9) rfl dX5_number_68 ?_
            refine x_baldN hx hb hK hP 1 t_at_22 rfl (by omega) (by decide) dX5_number_71 ?_
            refine lv_iadd hx hb dX5_number_72 ?_
            refine lv_bipush (v := 48) hx hb dX5_number_73 (by decide) ?_
            refine lv_isub hx hb dX5_number_75 ?_
            refine lv_goto (tgt := 82) hx hb dX5_number_76 (by decide) ?_
            exact J_33 (((10 * t_told_23) + (t_text t_at_22)) - 48) E  H locs ls hP hD hS (lv_sub hl [0, 1, 2] rfl)
  exact L_24 301 t_at_1 0 (by first | omega | assumption | rfl) (by first | omega | assumption | rfl) (by first | omega | assumption | rfl) (by omega) E H locs ls hP hD hS (lv_sub hl [0, 1, 2] rfl)
abbrev rX5_ends : Room := { frames := 1, cells := 0, slots := 0, locals := 20 }
theorem vX5_ends : yX5_ends.cls = RX5 ∧ yX5_ends.cls ≠ "java/lang/invoke/MethodHandle" ∧ yX5_ends.cls ≠ "java/lang/invoke/VarHandle" ∧ (parseMethodDescriptor yX5_ends.desc).map (fun d => d.parameters.length) = some 0 := by decide +kernel
abbrev wX5_ends : List Cond := Cond.code yX5_ends cX5_ends 1 (some .boolean) :: wsL_law
def F_X5_ends (t_length : Nat) (t_text : Nat → Int32) (t_at : Nat) : Int32 × Nat × Nat :=
  x_nm (F_X5_blanks t_length t_text t_at) fun u_4 => x_nm (α := Int32) (if t_length ≤ u_4.2 then 0 else if (t_text u_4.2) = 59 then 1 else 0) fun u_6 => (u_6, u_4.1 + 1, u_4.2)
set_option maxHeartbeats 4000000 in
set_option maxRecDepth 100000 in
theorem m_X5_ends (l : Launch) (g : x_G) (tA tA_text tA_is tA_doings tA_doing tA_row tA_isKept tA_best tA_heats tA_orders tA_has tA_salt tA_crumbs : Nat) (t_length : Nat) (t_at : Nat) (t_begin : Nat) (t_told : Int32) (t_items : Int32) (t_when : Int32) (t_most : Int32) (t_mostAt : Int32) (t_hiss : Int32) (t_tests : Nat) (t_traced : Int64) (t_hasSkin : Int32) (t_hasBend : Int32) (t_text : Nat → Int32) (h_0 : t_length ≤ 300) (h_1 : t_at ≤ 300) : x_MetI l yX5_ends wX5_ends rX5_ends g [.ref tA] [(tA, .inr (5, [.int (nI t_length), .ref tA_text, .int (nI t_at), .int (nI t_begin), .int t_told, .ref tA_is, .ref tA_doings, .ref tA_doing, .int t_items, .ref tA_row, .ref tA_isKept, .int t_when, .int t_most, .int t_mostAt, .int t_hiss, .ref tA_best, .ref tA_heats, .ref tA_orders, .ref tA_has, .int (nI t_tests), .ref tA_salt, .ref tA_crumbs, .long t_traced, .int t_hasSkin, .int t_hasBend])), (tA_text, .inl (g.2.1 2, 300, .inl t_text))] (fun (r : Int32) (u : Nat × Nat) => (((r, u) = F_X5_ends t_length t_text t_at) ∧ (r = 0 ∨ r = 1)) ∧ (u.1 ≤ 301) ∧ (u.2 ≤ 300) ∧ (t_at < u.1) ∧ (r = 0 ∨ u.1 ≤ 300)) (fun u => [(tA, .inr (5, [.int (nI t_length), .ref tA_text, .int (nI u.1), .int (nI u.2), .int t_told, .ref tA_is, .ref tA_doings, .ref tA_doing, .int t_items, .ref tA_row, .ref tA_isKept, .int t_when, .int t_most, .int t_mostAt, .int t_hiss, .ref tA_best, .ref tA_heats, .ref tA_orders, .ref tA_has, .int (nI t_tests), .ref tA_salt, .ref tA_crumbs, .long t_traced, .int t_hasSkin, .int t_hasBend])), (tA_text, .inl (g.2.1 2, 300, .inl t_text))]) := by
  refine x_startI (cc := cX5_ends) (maxL := 1) (by decide) rfl (Nat.le_of_ble_eq_true rfl) ?_
  intro p e s m args below meth c Q A ls H locs hx hb hml hown hts hK hX hP hD hS hA hl RET
  have hown : s.vm.findClass RX5 = some m.cls := hown
  have hl : lv_has ls 1 [(0, .ref tA)] := hl
  obtain ⟨o_0, hO⟩ : ∃ z, z = F_X5_ends t_length t_text t_at := ⟨_, rfl⟩
  have E := hO
  rw [F_X5_ends.eq_1] at E
  refine lv_aload_n hx hb dX5_ends_0 rfl (lv_at hl 0 rfl) ?_
  refine x_callVv (w2 := fun u => [(tA, .inr (5, [.int (nI t_length), .ref tA_text, .int (nI u.1), .int (nI u.2), .int t_told, .ref tA_is, .ref tA_doings, .ref tA_doing, .int t_items, .ref tA_row, .ref tA_isKept, .int t_when, .int t_most, .int t_mostAt, .int t_hiss, .ref tA_best, .ref tA_heats, .ref tA_orders, .ref tA_has, .int (nI t_tests), .ref tA_salt, .ref tA_crumbs, .long t_traced, .int t_hasSkin, .int t_hasBend])), (tA_text, .inl (g.2.1 2, 300, .inl t_text))]) (wr := []) [0, 1] [] [0, 1] 0 5 ⟨hx, hb, hml, hown, hts⟩ hK hX hP hD hS hA (m_X5_blanks l g tA tA_text tA_is tA_doings tA_doing tA_row tA_isKept tA_best tA_heats tA_orders tA_has tA_salt tA_crumbs t_length t_at t_begin t_told t_items t_when t_most t_mostAt t_hiss t_tests t_traced t_hasSkin t_hasBend t_text (by first | assumption | omega | exact x_e8 (by assumption) (by assumption)) (by first | assumption | omega | exact x_e8 (by assumption) (by assumption))) (cwV 0 hts (x_gV kw_290 kw_291 kw_292 kw_5 kw_293) rfl rfl rfl vX5_blanks ⟨Nat.le_of_ble_eq_true rfl, Nat.le_of_ble_eq_true rfl⟩) rfl rfl rfl rfl rfl rfl rfl (by decide) (fun _ => rfl) rfl rfl hl.1 rfl (Nat.le_of_ble_eq_true rfl) dX5_ends_1 ⟨Nat.zero_le _, Nat.zero_le _⟩ (fun u H locs hw_3 hP hD hS => ?_)
  obtain ⟨t_at_1, t_begin_2⟩ := u
  obtain ⟨hw_3, en_1_0, en_1_1, en_1_2⟩ := hw_3
  have en_1_0 : t_at_1 ≤ 300 := en_1_0
  have en_1_1 : t_begin_2 = t_at_1 := en_1_1
  have en_1_2 : t_at ≤ t_at_1 := en_1_2
  have hP : va_P g.1 vwCl [(tA, .inr (5, [.int (nI t_length), .ref tA_text, .int (nI t_at_1), .int (nI t_begin_2), .int t_told, .ref tA_is, .ref tA_doings, .ref tA_doing, .int t_items, .ref tA_row, .ref tA_isKept, .int t_when, .int t_most, .int t_mostAt, .int t_hiss, .ref tA_best, .ref tA_heats, .ref tA_orders, .ref tA_has, .int (nI t_tests), .ref tA_salt, .ref tA_crumbs, .long t_traced, .int t_hasSkin, .int t_hasBend])), (tA_text, .inl (g.2.1 2, 300, .inl t_text))] H := hP
  have hD : va_D A [(tA, .inr (5, [.int (nI t_length), .ref tA_text, .int (nI t_at_1), .int (nI t_begin_2), .int t_told, .ref tA_is, .ref tA_doings, .ref tA_doing, .int t_items, .ref tA_row, .ref tA_isKept, .int t_when, .int t_most, .int t_mostAt, .int t_hiss, .ref tA_best, .ref tA_heats, .ref tA_orders, .ref tA_has, .int (nI t_tests), .ref tA_salt, .ref tA_crumbs, .long t_traced, .int t_hasSkin, .int t_hasBend])), (tA_text, .inl (g.2.1 2, 300, .inl t_text))] := hD
  have E := x_nm_eq E hw_3
  refine lv_aload_n hx hb dX5_ends_4 rfl (lv_at hl 0 rfl) ?_
  refine lv_dup hx hb dX5_ends_5 rfl ?_
  refine va_get (ci := 5) (v := .int (nI t_at_1)) (C := RX5) (T := TX5) (N := 25) hx hb hts inlX5 hown hK.1 hP 0 rfl rfl 2 (by decide) (hts _ kw_286) (fun _ h9 => h9) rfl dX5_ends_6 ?_
  refine lv_iconst (v := 1) hx hb dX5_ends_9 (by decide) ?_
  refine lv_iadd hx hb dX5_ends_10 ?_
  refine x_eqi (nI_add t_at_1 1) ?_
  refine va_put (ci := 5) (v := .int (nI (t_at_1 + 1))) (ty := .int) (C := RX5) (T := TX5) (N := 25) hx hb hts inlX5 tyX5 tyX5_ok nmX5 hown hK.1 hP hD hS 0 rfl rfl 2 (by decide) (hts _ kw_286) (fun _ h9 => h9) rfl (tyX5_ok 2 (by decide)) rfl rfl (Nat.le_of_ble_eq_true rfl) dX5_ends_11 (fun H locs hP hD hS => ?_)
  have hP : va_P g.1 vwCl [(tA, .inr (5, [.int (nI t_length), .ref tA_text, .int (nI (t_at_1 + 1)), .int (nI t_begin_2), .int t_told, .ref tA_is, .ref tA_doings, .ref tA_doing, .int t_items, .ref tA_row, .ref tA_isKept, .int t_when, .int t_most, .int t_mostAt, .int t_hiss, .ref tA_best, .ref tA_heats, .ref tA_orders, .ref tA_has, .int (nI t_tests), .ref tA_salt, .ref tA_crumbs, .long t_traced, .int t_hasSkin, .int t_hasBend])), (tA_text, .inl (g.2.1 2, 300, .inl t_text))] H := hP
  have hD : va_D A [(tA, .inr (5, [.int (nI t_length), .ref tA_text, .int (nI (t_at_1 + 1)), .int (nI t_begin_2), .int t_told, .ref tA_is, .ref tA_doings, .ref tA_doing, .int t_items, .ref tA_row, .ref tA_isKept, .int t_when, .int t_most, .int t_mostAt, .int t_hiss, .ref tA_best, .ref tA_heats, .ref tA_orders, .ref tA_has, .int (nI t_tests), .ref tA_salt, .ref tA_crumbs, .long t_traced, .int t_hasSkin, .int t_hasBend])), (tA_text, .inl (g.2.1 2, 300, .inl t_text))] := hD
  refine lv_aload_n hx hb dX5_ends_14 rfl (lv_at hl 0 rfl) ?_
  refine va_get (ci := 5) (v := .int (nI t_begin_2)) (C := RX5) (T := TX5) (N := 25) hx hb hts inlX5 hown hK.1 hP 0 rfl rfl 3 (by decide) (hts _ kw_289) (fun _ h9 => h9) rfl dX5_ends_15 ?_
  refine lv_aload_n hx hb dX5_ends_18 rfl (lv_at hl 0 rfl) ?_
  refine va_get (ci := 5) (v := .int (nI t_length)) (C := RX5) (T := TX5) (N := 25) hx hb hts inlX5 hown hK.1 hP 0 rfl rfl 0 (by decide) (hts _ kw_128) (fun _ h9 => h9) rfl dX5_ends_19 ?_
  obtain ⟨o_6, E_6, E⟩ := x_nm_ex E
  have J_6 : ∀ (v_5 : Int32), o_6 = v_5 → (v_5 = 0 ∨ t_begin_2 < 300) → (v_5 = 0 ∨ v_5 = 1) → ∀ (H : Heap) (locs : List Loc) (ls : Array Slot), va_P g.1 vwCl [(tA, .inr (5, [.int (nI t_length), .ref tA_text, .int (nI (t_at_1 + 1)), .int (nI t_begin_2), .int t_told, .ref tA_is, .ref tA_doings, .ref tA_doing, .int t_items, .ref tA_row, .ref tA_isKept, .int t_when, .int t_most, .int t_mostAt, .int t_hiss, .ref tA_best, .ref tA_heats, .ref tA_orders, .ref tA_has, .int (nI t_tests), .ref tA_salt, .ref tA_crumbs, .long t_traced, .int t_hasSkin, .int t_hasBend])), (tA_text, .inl (g.2.1 2, 300, .inl t_text))] H → va_D A [(tA, .inr (5, [.int (nI t_length), .ref tA_text, .int (nI (t_at_1 + 1)), .int (nI t_begin_2), .int t_told, .ref tA_is, .ref tA_doings, .ref tA_doing, .int t_items, .ref tA_row, .ref tA_isKept, .int t_when, .int t_most, .int t_mostAt, .int t_hiss, .ref tA_best, .ref tA_heats, .ref tA_orders, .ref tA_has, .int (nI t_tests), .ref tA_salt, .ref tA_crumbs, .long t_traced, .int t_hasSkin, .int t_hasBend])), (tA_text, .inl (g.2.1 2, 300, .inl t_text))] → va_S A s.heap H locs → lv_has ls 1 [] → W p l e rX5_ends s m args below meth c H locs 0 0 Q (F0 m 44 ls [.int v_5]) := by
    intro v_5 hE f_6_0 f_6_1 H locs ls hP hD hS hl
    try rw [hE] at E
    exact RET v_5 (t_at_1 + 1, t_begin_2) H locs _ _ ⟨⟨E.symm.trans hO, (by assumption)⟩, (show (t_at_1 + 1) ≤ 301 by first | omega | assumption | exact Or.inl rfl | exact Or.inr (by omega)), (show t_begin_2 ≤ 300 by first | omega | assumption | exact Or.inl rfl | exact Or.inr (by omega)), (show t_at < (t_at_1 + 1) by first | omega | assumption | exact Or.inl rfl | exact Or.inr (by omega)), (show (v_5 = 0 ∨ (t_at_1 + 1) ≤ 300) from Or.imp id (fun h => by omega) (by assumption : v_5 = 0 ∨ t_begin_2 < 300))⟩ (x_nar (by assumption)) hP hD hS dX5_ends_44
  have E := E_6
  refine x_icmp_ge (a := t_begin_2) (b := t_length) (tgt := 43) hx hb (by omega) (by omega) dX5_ends_22 (by decide) (fun c_7 => ?_) (fun c_7 => ?_)
  · have E := x_pos E c_7
    refine lv_iconst (v := 0) hx hb dX5_ends_43 (by decide) ?_
    exact J_6 0 E (by first | omega | assumption | rfl | exact Or.inl rfl | exact Or.inr (by omega)) (Or.inl rfl) H locs ls hP hD hS (lv_sub hl [] rfl)
  · have E := x_neg E c_7
    refine lv_aload_n hx hb dX5_ends_25 rfl (lv_at hl 0 rfl) ?_
    refine va_get (ci := 5) (v := .ref tA_text) (C := RX5) (T := TX5) (N := 25) hx hb hts inlX5 hown hK.1 hP 0 rfl rfl 1 (by decide) (hts _ kw_93) (fun _ h9 => h9) rfl dX5_ends_26 ?_
    refine lv_aload_n hx hb dX5_ends_29 rfl (lv_at hl 0 rfl) ?_
    refine va_get (ci := 5) (v := .int (nI t_begin_2)) (C := RX5) (T := TX5) (N := 25) hx hb hts inlX5 hown hK.1 hP 0 rfl rfl 3 (by decide) (hts _ kw_289) (fun _ h9 => h9) rfl dX5_ends_30 ?_
    refine x_baldN hx hb hK hP 1 t_begin_2 rfl (by omega) (by decide) dX5_ends_33 ?_
    refine lv_bipush (v := 59) hx hb dX5_ends_34 (by decide) ?_
    refine x_icmp_neI (tgt := 43) hx hb dX5_ends_36 (by decide) (fun c_8 => ?_) (fun c_8 => ?_)
    · have E := x_neg E c_8
      refine lv_iconst (v := 0) hx hb dX5_ends_43 (by decide) ?_
      exact J_6 0 E (by first | omega | assumption | rfl | exact Or.inl rfl | exact Or.inr (by omega)) (Or.inl rfl) H locs ls hP hD hS (lv_sub hl [] rfl)
    · have E := x_pos E c_8
      refine lv_iconst (v := 1) hx hb dX5_ends_39 (by decide) ?_
      refine lv_goto (tgt := 44) hx hb dX5_ends_40 (by decide) ?_
      exact J_6 1 E (by first | omega | assumption | rfl | exact Or.inl rfl | exact Or.inr (by omega)) (Or.inr rfl) H locs ls hP hD hS (lv_sub hl [] rfl)
abbrev rX5_word : Room := { frames := 1, cells := 0, slots := 0, locals := 25 }
theorem vX5_word : yX5_word.cls = RX5 ∧ yX5_word.cls ≠ "java/lang/invoke/MethodHandle" ∧ yX5_word.cls ≠ "java/lang/invoke/VarHandle" ∧ (parseMethodDescriptor yX5_word.desc).map (fun d => d.parameters.length) = some 0 := by decide +kernel
abbrev wX5_word : List Cond := Cond.code yX5_word cX5_word 3 (some .int) :: wsL_law
def F_X5_word_L6 (t_length : Nat) (t_text : Nat → Int32) (t_begin_2 : Nat) : Nat → Int64 → Nat → Int64 × Nat
  | 0, l1_16, t_at_17 => (l1_16, t_at_17)
  | n_18 + 1, l1_16, t_at_17 => if t_length ≤ t_at_17 then (l1_16, t_at_17) else x_nm (F_X5_in ((t_text t_at_17).toInt64) 97 122) fun z_20 => if z_20 = 0 then (l1_16, t_at_17) else x_nm (α := Int64) (if 8 ≤ (t_at_17 - t_begin_2) then (-1) else (256 * l1_16) + ((t_text t_at_17).toInt64)) fun u_27 => F_X5_word_L6 t_length t_text t_begin_2 n_18 u_27 (t_at_17 + 1)
def F_X5_word (t_length : Nat) (t_text : Nat → Int32) (t_at : Nat) : Int32 × Nat × Nat :=
  x_nm (F_X5_blanks t_length t_text t_at) fun u_4 => x_nm (α := Int64 × Nat) (F_X5_word_L6 t_length t_text u_4.2 301 0 u_4.1) fun u_7 => x_nm (α := Int32) (if (lg_cmp u_7.1 1718186597) = 0 then 0 else if (lg_cmp u_7.1 1953854062) = 0 then 1 else if (lg_cmp u_7.1 482955846507) = 0 then 2 else if (lg_cmp u_7.1 126896644646258) = 0 then 3 else if (lg_cmp u_7.1 1936419182) = 0 then 4 else if (lg_cmp u_7.1 1650814580) = 0 then 5 else (-1)) fun u_9 => (u_9, u_7.2, u_4.2)
set_option maxHeartbeats 4000000 in
set_option maxRecDepth 100000 in
theorem m_X5_word (l : Launch) (g : x_G) (tA tA_text tA_is tA_doings tA_doing tA_row tA_isKept tA_best tA_heats tA_orders tA_has tA_salt tA_crumbs : Nat) (t_length : Nat) (t_at : Nat) (t_begin : Nat) (t_told : Int32) (t_items : Int32) (t_when : Int32) (t_most : Int32) (t_mostAt : Int32) (t_hiss : Int32) (t_tests : Nat) (t_traced : Int64) (t_hasSkin : Int32) (t_hasBend : Int32) (t_text : Nat → Int32) (h_0 : t_length ≤ 300) (h_1 : t_at ≤ 300) : x_MetI l yX5_word wX5_word rX5_word g [.ref tA] [(tA, .inr (5, [.int (nI t_length), .ref tA_text, .int (nI t_at), .int (nI t_begin), .int t_told, .ref tA_is, .ref tA_doings, .ref tA_doing, .int t_items, .ref tA_row, .ref tA_isKept, .int t_when, .int t_most, .int t_mostAt, .int t_hiss, .ref tA_best, .ref tA_heats, .ref tA_orders, .ref tA_has, .int (nI t_tests), .ref tA_salt, .ref tA_crumbs, .long t_traced, .int t_hasSkin, .int t_hasBend])), (tA_text, .inl (g.2.1 2, 300, .inl t_text))] (fun (r : Int32) (u : Nat × Nat) => ((r, u) = F_X5_word t_length t_text t_at) ∧ (u.1 ≤ 300) ∧ (u.2 ≤ u.1) ∧ (t_at ≤ u.1)) (fun u => [(tA, .inr (5, [.int (nI t_length), .ref tA_text, .int (nI u.1), .int (nI u.2), .int t_told, .ref tA_is, .ref tA_doings, .ref tA_doing, .int t_items, .ref tA_row, .ref tA_isKept, .int t_when, .int t_most, .int t_mostAt, .int t_hiss, .ref tA_best, .ref tA_heats, .ref tA_orders, .ref tA_has, .int (nI t_tests), .ref tA_salt, .ref tA_crumbs, .long t_traced, .int t_hasSkin, .int t_hasBend])), (tA_text, .inl (g.2.1 2, 300, .inl t_text))]) := by
  refine x_startI (cc := cX5_word) (maxL := 3) (by decide) rfl (Nat.le_of_ble_eq_true rfl) ?_
  intro p e s m args below meth c Q A ls H locs hx hb hml hown hts hK hX hP hD hS hA hl RET
  have hown : s.vm.findClass RX5 = some m.cls := hown
  have hl : lv_has ls 3 [(0, .ref tA)] := hl
  obtain ⟨o_0, hO⟩ : ∃ z, z = F_X5_word t_length t_text t_at := ⟨_, rfl⟩
  have E := hO
  rw [F_X5_word.eq_1] at E
  refine lv_aload_n hx hb dX5_word_0 rfl (lv_at hl 0 rfl) ?_
  refine x_callVv (w2 := fun u => [(tA, .inr (5, [.int (nI t_length), .ref tA_text, .int (nI u.1), .int (nI u.2), .int t_told, .ref tA_is, .ref tA_doings, .ref tA_doing, .int t_items, .ref tA_row, .ref tA_isKept, .int t_when, .int t_most, .int t_mostAt, .int t_hiss, .ref tA_best, .ref tA_heats, .ref tA_orders, .ref tA_has, .int (nI t_tests), .ref tA_salt, .ref tA_crumbs, .long t_traced, .int t_hasSkin, .int t_hasBend])), (tA_text, .inl (g.2.1 2, 300, .inl t_text))]) (wr := []) [0, 1] [] [0, 1] 0 5 ⟨hx, hb, hml, hown, hts⟩ hK hX hP hD hS hA (m_X5_blanks l g tA tA_text tA_is tA_doings tA_doing tA_row tA_isKept tA_best tA_heats tA_orders tA_has tA_salt tA_crumbs t_length t_at t_begin t_told t_items t_when t_most t_mostAt t_hiss t_tests t_traced t_hasSkin t_hasBend t_text (by first | assumption | omega | exact x_e8 (by assumption) (by assumption)) (by first | assumption | omega | exact x_e8 (by assumption) (by assumption))) (cwV 0 hts (x_gV kw_290 kw_291 kw_292 kw_5 kw_293) rfl rfl rfl vX5_blanks ⟨Nat.le_of_ble_eq_true rfl, Nat.le_of_ble_eq_true rfl⟩) rfl rfl rfl rfl rfl rfl rfl (by decide) (fun _ => rfl) rfl rfl hl.1 rfl (Nat.le_of_ble_eq_true rfl) dX5_word_1 ⟨Nat.zero_le _, Nat.zero_le _⟩ (fun u H locs hw_3 hP hD hS => ?_)
  obtain ⟨t_at_1, t_begin_2⟩ := u
  obtain ⟨hw_3, en_1_0, en_1_1, en_1_2⟩ := hw_3
  have en_1_0 : t_at_1 ≤ 300 := en_1_0
  have en_1_1 : t_begin_2 = t_at_1 := en_1_1
  have en_1_2 : t_at ≤ t_at_1 := en_1_2
  have hP : va_P g.1 vwCl [(tA, .inr (5, [.int (nI t_length), .ref tA_text, .int (nI t_at_1), .int (nI t_begin_2), .int t_told, .ref tA_is, .ref tA_doings, .ref tA_doing, .int t_items, .ref tA_row, .ref tA_isKept, .int t_when, .int t_most, .int t_mostAt, .int t_hiss, .ref tA_best, .ref tA_heats, .ref tA_orders, .ref tA_has, .int (nI t_tests), .ref tA_salt, .ref tA_crumbs, .long t_traced, .int t_hasSkin, .int t_hasBend])), (tA_text, .inl (g.2.1 2, 300, .inl t_text))] H := hP
  have hD : va_D A [(tA, .inr (5, [.int (nI t_length), .ref tA_text, .int (nI t_at_1), .int (nI t_begin_2), .int t_told, .ref tA_is, .ref tA_doings, .ref tA_doing, .int t_items, .ref tA_row, .ref tA_isKept, .int t_when, .int t_most, .int t_mostAt, .int t_hiss, .ref tA_best, .ref tA_heats, .ref tA_orders, .ref tA_has, .int (nI t_tests), .ref tA_salt, .ref tA_crumbs, .long t_traced, .int t_hasSkin, .int t_hasBend])), (tA_text, .inl (g.2.1 2, 300, .inl t_text))] := hD
  have E := x_nm_eq E hw_3
  refine lv_lconst (v := 0) hx hb dX5_word_4 (by decide) ?_
  refine lv_lstore_n (lv' := [(1, .long 0), (0, .ref tA)]) hx hb dX5_word_5 rfl hl (by decide) rfl (fun ls hl => ?_)
  obtain ⟨o_7, E_7, E⟩ := x_nm_ex E
  have J_7 : ∀ (l1_5 : Int64) (t_at_6 : Nat), o_7 = (l1_5, t_at_6) → (t_at_6 ≤ 300) → (t_begin_2 ≤ t_at_6) → (t_at ≤ t_at_6) → ∀ (H : Heap) (locs : List Loc) (ls : Array Slot), va_P g.1 vwCl [(tA, .inr (5, [.int (nI t_length), .ref tA_text, .int (nI t_at_6), .int (nI t_begin_2), .int t_told, .ref tA_is, .ref tA_doings, .ref tA_doing, .int t_items, .ref tA_row, .ref tA_isKept, .int t_when, .int t_most, .int t_mostAt, .int t_hiss, .ref tA_best, .ref tA_heats, .ref tA_orders, .ref tA_has, .int (nI t_tests), .ref tA_salt, .ref tA_crumbs, .long t_traced, .int t_hasSkin, .int t_hasBend])), (tA_text, .inl (g.2.1 2, 300, .inl t_text))] H → va_D A [(tA, .inr (5, [.int (nI t_length), .ref tA_text, .int (nI t_at_6), .int (nI t_begin_2), .int t_told, .ref tA_is, .ref tA_doings, .ref tA_doing, .int t_items, .ref tA_row, .ref tA_isKept, .int t_when, .int t_most, .int t_mostAt, .int t_hiss, .ref tA_best, .ref tA_heats, .ref tA_orders, .ref tA_has, .int (nI t_tests), .ref tA_salt, .ref tA_crumbs, .long t_traced, .int t_hasSkin, .int t_hasBend])), (tA_text, .inl (g.2.1 2, 300, .inl t_text))] → va_S A s.heap H locs → lv_has ls 3 [(1, .long l1_5)] → W p l e rX5_word s m args below meth c H locs 0 0 Q (F0 m 89 ls []) := by
    intro l1_5 t_at_6 hE f_7_0 f_7_1 f_7_2 H locs ls hP hD hS hl
    try rw [hE] at E
    refine lv_lload_n hx hb dX5_word_89 rfl (lv_at hl 0 rfl) ?_
    refine lv_ldc2 (v := 1718186597) hx hb hown (hts _ kw_306) dX5_word_90 ?_
    refine W.lcmp hx hb dX5_word_93 ?_
    obtain ⟨o_9, E_9, E⟩ := x_nm_ex E
    have J_9 : ∀ (v_8 : Int32), o_9 = v_8 → ∀ (H : Heap) (locs : List Loc) (ls : Array Slot), va_P g.1 vwCl [(tA, .inr (5, [.int (nI t_length), .ref tA_text, .int (nI t_at_6), .int (nI t_begin_2), .int t_told, .ref tA_is, .ref tA_doings, .ref tA_doing, .int t_items, .ref tA_row, .ref tA_isKept, .int t_when, .int t_most, .int t_mostAt, .int t_hiss, .ref tA_best, .ref tA_heats, .ref tA_orders, .ref tA_has, .int (nI t_tests), .ref tA_salt, .ref tA_crumbs, .long t_traced, .int t_hasSkin, .int t_hasBend])), (tA_text, .inl (g.2.1 2, 300, .inl t_text))] H → va_D A [(tA, .inr (5, [.int (nI t_length), .ref tA_text, .int (nI t_at_6), .int (nI t_begin_2), .int t_told, .ref tA_is, .ref tA_doings, .ref tA_doing, .int t_items, .ref tA_row, .ref tA_isKept, .int t_when, .int t_most, .int t_mostAt, .int t_hiss, .ref tA_best, .ref tA_heats, .ref tA_orders, .ref tA_has, .int (nI t_tests), .ref tA_salt, .ref tA_crumbs, .long t_traced, .int t_hasSkin, .int t_hasBend])), (tA_text, .inl (g.2.1 2, 300, .inl t_text))] → va_S A s.heap H locs → lv_has ls 3 [] → W p l e rX5_word s m args below meth c H locs 0 0 Q (F0 m 162 ls [.int v_8]) := by
      intro v_8 hE  H locs ls hP hD hS hl
      try rw [hE] at E
      exact RET v_8 (t_at_6, t_begin_2) H locs _ _ ⟨E.symm.trans hO, (show t_at_6 ≤ 300 by first | omega | assumption | exact Or.inl rfl | exact Or.inr (by omega)), (show t_begin_2 ≤ t_at_6 by first | omega | assumption | exact Or.inl rfl | exact Or.inr (by omega)), (show t_at ≤ t_at_6 by first | omega | assumption | exact Or.inl rfl | exact Or.inr (by omega))⟩ rfl hP hD hS dX5_word_162
    have E := E_9
    refine x_if_neI (tgt := 101) hx hb dX5_word_94 (by decide) (fun c_10 => ?_) (fun c_10 => ?_)
    · have E := x_neg E c_10
      refine lv_lload_n hx hb dX5_word_101 rfl (lv_at hl 0 rfl) ?_
      refine lv_ldc2 (v := 1953854062) hx hb hown (hts _ kw_307) dX5_word_102 ?_
      refine W.lcmp hx hb dX5_word_105 ?_
      refine x_if_neI (tgt := 113) hx hb dX5_word_106 (by decide) (fun c_11 => ?_) (fun c_11 => ?_)
      · have E := x_neg E c_11
        refine lv_lload_n hx hb dX5_word_113 rfl (lv_at hl 0 rfl) ?_
        refine lv_ldc2 (v := 482955846507) hx hb hown (hts _ kw_308) dX5_word_114 ?_
        refine W.lcmp hx hb dX5_word_117 ?_
        refine x_if_neI (tgt := 125) hx hb dX5_word_118 (by decide) (fun c_12 => ?_) (fun c_12 => ?_)
        · have E := x_neg E c_12
          refine lv_lload_n hx hb dX5_word_125 rfl (lv_at hl 0 rfl) ?_
          refine lv_ldc2 (v := 126896644646258) hx hb hown (hts _ kw_309) dX5_word_126 ?_
          refine W.lcmp hx hb dX5_word_129 ?_
          refine x_if_neI (tgt := 137) hx hb dX5_word_130 (by decide) (fun c_13 => ?_) (fun c_13 => ?_)
          · have E := x_neg E c_13
            refine lv_lload_n hx hb dX5_word_137 rfl (lv_at hl 0 rfl) ?_
            refine lv_ldc2 (v := 1936419182) hx hb hown (hts _ kw_310) dX5_word_138 ?_
            refine W.lcmp hx hb dX5_word_141 ?_
            refine x_if_neI (tgt := 149) hx hb dX5_word_142 (by decide) (fun c_14 => ?_) (fun c_14 => ?_)
            · have E := x_neg E c_14
              refine lv_lload_n hx hb dX5_word_149 rfl (lv_at hl 0 rfl) ?_
              refine lv_ldc2 (v := 1650814580) hx hb hown (hts _ kw_311) dX5_word_150 ?_
              refine W.lcmp hx hb dX5_word_153 ?_
              refine x_if_neI (tgt := 161) hx hb dX5_word_154 (by decide) (fun c_15 => ?_) (fun c_15 => ?_)
              · have E := x_neg E c_15
                refine lv_iconst (v := (-1)) hx hb dX5_word_161 (by decide) ?_
                exact J_9 (-1) E  H locs ls hP hD hS (lv_sub hl [] rfl)
              · have E := x_pos E c_15
                refine lv_iconst (v := 5) hx hb dX5_word_157 (by decide) ?_
                refine lv_goto (tgt := 162) hx hb dX5_word_158 (by decide) ?_
                exact J_9 5 E  H locs ls hP hD hS (lv_sub hl [] rfl)
            · have E := x_pos E c_14
              refine lv_iconst (v := 4) hx hb dX5_word_145 (by decide) ?_
              refine lv_goto (tgt := 162) hx hb dX5_word_146 (by decide) ?_
              exact J_9 4 E  H locs ls hP hD hS (lv_sub hl [] rfl)
          · have E := x_pos E c_13
            refine lv_iconst (v := 3) hx hb dX5_word_133 (by decide) ?_
            refine lv_goto (tgt := 162) hx hb dX5_word_134 (by decide) ?_
            exact J_9 3 E  H locs ls hP hD hS (lv_sub hl [] rfl)
        · have E := x_pos E c_12
          refine lv_iconst (v := 2) hx hb dX5_word_121 (by decide) ?_
          refine lv_goto (tgt := 162) hx hb dX5_word_122 (by decide) ?_
          exact J_9 2 E  H locs ls hP hD hS (lv_sub hl [] rfl)
      · have E := x_pos E c_11
        refine lv_iconst (v := 1) hx hb dX5_word_109 (by decide) ?_
        refine lv_goto (tgt := 162) hx hb dX5_word_110 (by decide) ?_
        exact J_9 1 E  H locs ls hP hD hS (lv_sub hl [] rfl)
    · have E := x_pos E c_10
      refine lv_iconst (v := 0) hx hb dX5_word_97 (by decide) ?_
      refine lv_goto (tgt := 162) hx hb dX5_word_98 (by decide) ?_
      exact J_9 0 E  H locs ls hP hD hS (lv_sub hl [] rfl)
  have E := E_7
  have L_18 : ∀ (n_18 : Nat) (l1_16 : Int64) (t_at_17 : Nat), (t_at_17 ≤ 300) → (t_begin_2 ≤ t_at_17) → (t_at ≤ t_at_17) → ((300 - t_at_17) < n_18) → o_7 = F_X5_word_L6 t_length t_text t_begin_2 n_18 l1_16 t_at_17 → ∀ (H : Heap) (locs : List Loc) (ls : Array Slot), va_P g.1 vwCl [(tA, .inr (5, [.int (nI t_length), .ref tA_text, .int (nI t_at_17), .int (nI t_begin_2), .int t_told, .ref tA_is, .ref tA_doings, .ref tA_doing, .int t_items, .ref tA_row, .ref tA_isKept, .int t_when, .int t_most, .int t_mostAt, .int t_hiss, .ref tA_best, .ref tA_heats, .ref tA_orders, .ref tA_has, .int (nI t_tests), .ref tA_salt, .ref tA_crumbs, .long t_traced, .int t_hasSkin, .int t_hasBend])), (tA_text, .inl (g.2.1 2, 300, .inl t_text))] H → va_D A [(tA, .inr (5, [.int (nI t_length), .ref tA_text, .int (nI t_at_17), .int (nI t_begin_2), .int t_told, .ref tA_is, .ref tA_doings, .ref tA_doing, .int t_items, .ref tA_row, .ref tA_isKept, .int t_when, .int t_most, .int t_mostAt, .int t_hiss, .ref tA_best, .ref tA_heats, .ref tA_orders, .ref tA_has, .int (nI t_tests), .ref tA_salt, .ref tA_crumbs, .long t_traced, .int t_hasSkin, .int t_hasBend])), (tA_text, .inl (g.2.1 2, 300, .inl t_text))] → va_S A s.heap H locs → lv_has ls 3 [(0, .ref tA), (1, .long l1_16)] → W p l e rX5_word s m args below meth c H locs 0 0 Q (F0 m 6 ls []) := by
    intro n_18
    induction n_18 with
    | zero => intro l1_16 t_at_17 i_18_0 i_18_1 i_18_2 i_18_3; exact absurd i_18_3 (by omega)
    | succ n_18 ih_18 =>
      intro l1_16 t_at_17 i_18_0 i_18_1 i_18_2 i_18_3 E H locs ls hP hD hS hl
      rw [F_X5_word_L6.eq_2] at E
      refine lv_aload_n hx hb dX5_word_6 rfl (lv_at hl 0 rfl) ?_
      refine va_get (ci := 5) (v := .int (nI t_at_17)) (C := RX5) (T := TX5) (N := 25) hx hb hts inlX5 hown hK.1 hP 0 rfl rfl 2 (by decide) (hts _ kw_286) (fun _ h9 => h9) rfl dX5_word_7 ?_
      refine lv_aload_n hx hb dX5_word_10 rfl (lv_at hl 0 rfl) ?_
      refine va_get (ci := 5) (v := .int (nI t_length)) (C := RX5) (T := TX5) (N := 25) hx hb hts inlX5 hown hK.1 hP 0 rfl rfl 0 (by decide) (hts _ kw_128) (fun _ h9 => h9) rfl dX5_word_11 ?_
      refine x_icmp_ge (a := t_at_17) (b := t_length) (tgt := 89) hx hb (by omega) (by omega) dX5_word_14 (by decide) (fun c_19 => ?_) (fun c_19 => ?_)
      · have E := x_pos E c_19
        exact J_7 l1_16 t_at_17 E (by first | omega | assumption | rfl | exact Or.inl rfl | exact Or.inr (by omega)) (by first | omega | assumption | rfl | exact Or.inl rfl | exact Or.inr (by omega)) (by first | omega | assumption | rfl | exact Or.inl rfl | exact Or.inr (by omega)) H locs ls hP hD hS (lv_sub hl [1] rfl)
      · have E := x_neg E c_19
        refine lv_aload_n hx hb dX5_word_17 rfl (lv_at hl 0 rfl) ?_
        refine va_get (ci := 5) (v := .ref tA_text) (C := RX5) (T := TX5) (N := 25) hx hb hts inlX5 hown hK.1 hP 0 rfl rfl 1 (by decide) (hts _ kw_93) (fun _ h9 => h9) rfl dX5_word_18 ?_
        refine lv_aload_n hx hb dX5_word_21 rfl (lv_at hl 0 rfl) ?_
        refine va_get (ci := 5) (v := .int (nI t_at_17)) (C := RX5) (T := TX5) (N := 25) hx hb hts inlX5 hown hK.1 hP 0 rfl rfl 2 (by decide) (hts _ kw_286) (fun _ h9 => h9) rfl dX5_word_22 ?_
        refine x_baldN hx hb hK hP 1 t_at_17 rfl (by omega) (by decide) dX5_word_25 ?_
        refine lv_i2l (v := (t_text t_at_17).toInt64) hx hb dX5_word_26 rfl ?_
        refine lv_ldc2 (v := 97) hx hb hown (hts _ kw_302) dX5_word_27 ?_
        refine lv_ldc2 (v := 122) hx hb hown (hts _ kw_303) dX5_word_30 ?_
        refine x_callS0 ⟨hx, hb, hml, hown, hts⟩ hK hX hP hD hS hA (m_X5_in l g ((t_text t_at_17).toInt64) 97 122) (va_cwS 3 hts (x_gS kw_129 kw_130 kw_5 kw_131) rfl rfl rfl vX5_inS ⟨Nat.le_of_ble_eq_true rfl, Nat.le_of_ble_eq_true rfl⟩) rfl hl.1 rfl (Nat.le_of_ble_eq_true rfl) dX5_word_33 ⟨Nat.zero_le _, Nat.zero_le _⟩ (fun z_20 _ H locs hw_21 hP hD hS => ?_)
        obtain ⟨hw_21, b_22⟩ := hw_21
        have E := x_nm_eq E hw_21
        refine lv_if_eq (tgt := 89) hx hb dX5_word_36 (by decide) (fun c_24 => ?_) (fun c_24 => ?_)
        · have E := x_pos E c_24
          exact J_7 l1_16 t_at_17 E (by first | omega | assumption | rfl | exact Or.inl rfl | exact Or.inr (by omega)) (by first | omega | assumption | rfl | exact Or.inl rfl | exact Or.inr (by omega)) (by first | omega | assumption | rfl | exact Or.inl rfl | exact Or.inr (by omega)) H locs ls hP hD hS (lv_sub hl [1] rfl)
        · have E := x_neg E c_24
          refine lv_aload_n hx hb dX5_word_39 rfl (lv_at hl 0 rfl) ?_
          refine va_get (ci := 5) (v := .int (nI t_at_17)) (C := RX5) (T := TX5) (N := 25) hx hb hts inlX5 hown hK.1 hP 0 rfl rfl 2 (by decide) (hts _ kw_286) (fun _ h9 => h9) rfl dX5_word_40 ?_
          refine lv_aload_n hx hb dX5_word_43 rfl (lv_at hl 0 rfl) ?_
          refine va_get (ci := 5) (v := .int (nI t_begin_2)) (C := RX5) (T := TX5) (N := 25) hx hb hts inlX5 hown hK.1 hP 0 rfl rfl 3 (by decide) (hts _ kw_289) (fun _ h9 => h9) rfl dX5_word_44 ?_
          refine lv_isub hx hb dX5_word_47 ?_
          refine x_eqi (pk_sub (a := t_at_17) (b := t_begin_2) (by omega)) ?_
          refine lv_bipush (v := 8) hx hb dX5_word_48 (by decide) ?_
          obtain ⟨o_27, E_27, E⟩ := x_nm_ex E
          have J_27 : ∀ (v_26 : Int64), o_27 = v_26 → ∀ (H : Heap) (locs : List Loc) (ls : Array Slot), va_P g.1 vwCl [(tA, .inr (5, [.int (nI t_length), .ref tA_text, .int (nI t_at_17), .int (nI t_begin_2), .int t_told, .ref tA_is, .ref tA_doings, .ref tA_doing, .int t_items, .ref tA_row, .ref tA_isKept, .int t_when, .int t_most, .int t_mostAt, .int t_hiss, .ref tA_best, .ref tA_heats, .ref tA_orders, .ref tA_has, .int (nI t_tests), .ref tA_salt, .ref tA_crumbs, .long t_traced, .int t_hasSkin, .int t_hasBend])), (tA_text, .inl (g.2.1 2, 300, .inl t_text))] H → va_D A [(tA, .inr (5, [.int (nI t_length), .ref tA_text, .int (nI t_at_17), .int (nI t_begin_2), .int t_told, .ref tA_is, .ref tA_doings, .ref tA_doing, .int t_items, .ref tA_row, .ref tA_isKept, .int t_when, .int t_most, .int t_mostAt, .int t_hiss, .ref tA_best, .ref tA_heats, .ref tA_orders, .ref tA_has, .int (nI t_tests), .ref tA_salt, .ref tA_crumbs, .long t_traced, .int t_hasSkin, .int t_hasBend])), (tA_text, .inl (g.2.1 2, 300, .inl t_text))] → va_S A s.heap H locs → lv_has ls 3 [(0, .ref tA)] → W p l e rX5_word s m args below meth c H locs 0 0 Q (F0 m 75 ls [.long v_26]) := by
            intro v_26 hE  H locs ls hP hD hS hl
            try rw [hE] at E
            refine lv_lstore_n (lv' := [(1, .long v_26), (0, .ref tA)]) hx hb dX5_word_75 rfl hl (by decide) rfl (fun ls hl => ?_)
            refine lv_aload_n hx hb dX5_word_76 rfl (lv_at hl 1 rfl) ?_
            refine lv_dup hx hb dX5_word_77 rfl ?_
            refine va_get (ci := 5) (v := .int (nI t_at_17)) (C := RX5) (T := TX5) (N := 25) hx hb hts inlX5 hown hK.1 hP 0 rfl rfl 2 (by decide) (hts _ kw_286) (fun _ h9 => h9) rfl dX5_word_78 ?_
            refine lv_iconst (v := 1) hx hb dX5_word_81 (by decide) ?_
            refine lv_iadd hx hb dX5_word_82 ?_
            refine x_eqi (nI_add t_at_17 1) ?_
            refine va_put (ci := 5) (v := .int (nI (t_at_17 + 1))) (ty := .int) (C := RX5) (T := TX5) (N := 25) hx hb hts inlX5 tyX5 tyX5_ok nmX5 hown hK.1 hP hD hS 0 rfl rfl 2 (by decide) (hts _ kw_286) (fun _ h9 => h9) rfl (tyX5_ok 2 (by decide)) rfl rfl (Nat.le_of_ble_eq_true rfl) dX5_word_83 (fun H locs hP hD hS => ?_)
            have hP : va_P g.1 vwCl [(tA, .inr (5, [.int (nI t_length), .ref tA_text, .int (nI (t_at_17 + 1)), .int (nI t_begin_2), .int t_told, .ref tA_is, .ref tA_doings, .ref tA_doing, .int t_items, .ref tA_row, .ref tA_isKept, .int t_when, .int t_most, .int t_mostAt, .int t_hiss, .ref tA_best, .ref tA_heats, .ref tA_orders, .ref tA_has, .int (nI t_tests), .ref tA_salt, .ref tA_crumbs, .long t_traced, .int t_hasSkin, .int t_hasBend])), (tA_text, .inl (g.2.1 2, 300, .inl t_text))] H := hP
            have hD : va_D A [(tA, .inr (5, [.int (nI t_length), .ref tA_text, .int (nI (t_at_17 + 1)), .int (nI t_begin_2), .int t_told, .ref tA_is, .ref tA_doings, .ref tA_doing, .int t_items, .ref tA_row, .ref tA_isKept, .int t_when, .int t_most, .int t_mostAt, .int t_hiss, .ref tA_best, .ref tA_heats, .ref tA_orders, .ref tA_has, .int (nI t_tests), .ref tA_salt, .ref tA_crumbs, .long t_traced, .int t_hasSkin, .int t_hasBend])), (tA_text, .inl (g.2.1 2, 300, .inl t_text))] := hD
            refine lv_goto (tgt := 6) hx hb dX5_word_86 (by decide) ?_
            exact ih_18 v_26 (t_at_17 + 1) (by first | omega | assumption | exact Eq.trans (by assumption) (by assumption)) (by first | omega | assumption | exact Eq.trans (by assumption) (by assumption)) (by first | omega | assumption | exact Eq.trans (by assumption) (by assumption)) (by omega) E H locs ls hP hD hS (lv_sub hl [1, 0] rfl)
          have E := E_27
          refine x_icmp_ge (a := (t_at_17 - t_begin_2)) (b := 8) (tgt := 72) hx hb (by omega) (by omega) dX5_word_50 (by decide) (fun c_28 => ?_) (fun c_28 => ?_)
          · have E := x_pos E c_28
            refine lv_ldc2 (v := (-1)) hx hb hown (hts _ kw_305) dX5_word_72 ?_
            exact J_27 (-1) E  H locs ls hP hD hS (lv_sub hl [0] rfl)
          · have E := x_neg E c_28
            refine lv_ldc2 (v := 256) hx hb hown (hts _ kw_304) dX5_word_53 ?_
            refine lv_lload_n hx hb dX5_word_56 rfl (lv_at hl 1 rfl) ?_
            refine lv_lmul hx hb dX5_word_57 ?_
            refine lv_aload_n hx hb dX5_word_58 rfl (lv_at hl 0 rfl) ?_
            refine va_get (ci := 5) (v := .ref tA_text) (C := RX5) (T := TX5) (N := 25) hx hb hts inlX5 hown hK.1 hP 0 rfl rfl 1 (by decide) (hts _ kw_93) (fun _ h9 => h9) rfl dX5_word_59 ?_
            refine lv_aload_n hx hb dX5_word_62 rfl (lv_at hl 0 rfl) ?_
            refine va_get (ci := 5) (v := .int (nI t_at_17)) (C := RX5) (T := TX5) (N := 25) hx hb hts inlX5 hown hK.1 hP 0 rfl rfl 2 (by decide) (hts _ kw_286) (fun _ h9 => h9) rfl dX5_word_63 ?_
            refine x_baldN hx hb hK hP 1 t_at_17 rfl (by omega) (by decide) dX5_word_66 ?_
            refine lv_i2l (v := (t_text t_at_17).toInt64) hx hb dX5_word_67 rfl ?_
            refine lv_ladd hx hb dX5_word_68 ?_
            refine lv_goto (tgt := 75) hx hb dX5_word_69 (by decide) ?_
            exact J_27 ((256 * l1_16) + ((t_text t_at_17).toInt64)) E  H locs ls hP hD hS (lv_sub hl [0] rfl)
  exact L_18 301 0 t_at_1 (by first | omega | assumption | rfl) (by first | omega | assumption | rfl) (by first | omega | assumption | rfl) (by omega) E H locs ls hP hD hS (lv_sub hl [1, 0] rfl)
abbrev rX5_highest : Room := { frames := 0, cells := 0, slots := 0, locals := 0 }
theorem vX5_highestS : yX5_highest.cls ≠ "java/lang/invoke/MethodHandle" ∧ yX5_highest.cls ≠ "java/lang/invoke/VarHandle" ∧ (parseMethodDescriptor yX5_highest.desc).map (fun d => d.parameters.length) = some 1 := by decide +kernel
abbrev wX5_highest : List Cond := Cond.code yX5_highest cX5_highest 1 (some .int) :: wsL_law
def F_X5_highest (a1 : Int32) : Int32 :=
  x_nm (α := Int32) (if a1 = 0 then 9 else if a1 = 2 then 99 else if a1 = 6 then 10 else 999) fun u_2 => u_2
set_option maxHeartbeats 4000000 in
set_option maxRecDepth 100000 in
theorem m_X5_highest (l : Launch) (g : x_G) (a1 : Int32) : x_MetI l yX5_highest wX5_highest rX5_highest g [.int a1] [] (fun (r : Int32) (u : Unit) => r = F_X5_highest a1) (fun _ => []) := by
  refine x_startI (cc := cX5_highest) (maxL := 1) (by decide) rfl (Nat.le_of_ble_eq_true rfl) ?_
  intro p e s m args below meth c Q A ls H locs hx hb hml hown hts hK hX hP hD hS hA hl RET
  have hown : s.vm.findClass RX5 = some m.cls := hown
  have hl : lv_has ls 1 [(0, .int a1)] := hl
  obtain ⟨o_0, hO⟩ : ∃ z, z = F_X5_highest a1 := ⟨_, rfl⟩
  have E := hO
  rw [F_X5_highest.eq_1] at E
  refine lv_iload_n hx hb dX5_highest_0 rfl (lv_at hl 0 rfl) ?_
  obtain ⟨o_2, E_2, E⟩ := x_nm_ex E
  have J_2 : ∀ (v_1 : Int32), o_2 = v_1 → ∀ (H : Heap) (locs : List Loc) (ls : Array Slot), va_P g.1 vwCl [] H → va_D A [] → va_S A s.heap H locs → lv_has ls 1 [] → W p l e rX5_highest s m args below meth c H locs 0 0 Q (F0 m 33 ls [.int v_1]) := by
    intro v_1 hE  H locs ls hP hD hS hl
    try rw [hE] at E
    exact RET v_1 () H locs _ _ (E.symm.trans hO) rfl hP hD hS dX5_highest_33
  have E := E_2
  refine x_if_neI (tgt := 9) hx hb dX5_highest_1 (by decide) (fun c_3 => ?_) (fun c_3 => ?_)
  · have E := x_neg E c_3
    refine lv_iload_n hx hb dX5_highest_9 rfl (lv_at hl 0 rfl) ?_
    refine lv_iconst (v := 2) hx hb dX5_highest_10 (by decide) ?_
    refine x_icmp_neI (tgt := 19) hx hb dX5_highest_11 (by decide) (fun c_4 => ?_) (fun c_4 => ?_)
    · have E := x_neg E c_4
      refine lv_iload_n hx hb dX5_highest_19 rfl (lv_at hl 0 rfl) ?_
      refine lv_bipush (v := 6) hx hb dX5_highest_20 (by decide) ?_
      refine x_icmp_neI (tgt := 30) hx hb dX5_highest_22 (by decide) (fun c_5 => ?_) (fun c_5 => ?_)
      · have E := x_neg E c_5
        refine lv_sipush (v := 999) hx hb dX5_highest_30 (by decide) ?_
        exact J_2 999 E  H locs ls hP hD hS (lv_sub hl [] rfl)
      · have E := x_pos E c_5
        refine lv_bipush (v := 10) hx hb dX5_highest_25 (by decide) ?_
        refine lv_goto (tgt := 33) hx hb dX5_highest_27 (by decide) ?_
        exact J_2 10 E  H locs ls hP hD hS (lv_sub hl [] rfl)
    · have E := x_pos E c_4
      refine lv_bipush (v := 99) hx hb dX5_highest_14 (by decide) ?_
      refine lv_goto (tgt := 33) hx hb dX5_highest_16 (by decide) ?_
      exact J_2 99 E  H locs ls hP hD hS (lv_sub hl [] rfl)
  · have E := x_pos E c_3
    refine lv_bipush (v := 9) hx hb dX5_highest_4 (by decide) ?_
    refine lv_goto (tgt := 33) hx hb dX5_highest_6 (by decide) ?_
    exact J_2 9 E  H locs ls hP hD hS (lv_sub hl [] rfl)
abbrev rX5_isSkin : Room := { frames := 2, cells := 0, slots := 0, locals := 48 }
theorem vX5_isSkin : yX5_isSkin.cls = RX5 ∧ yX5_isSkin.cls ≠ "java/lang/invoke/MethodHandle" ∧ yX5_isSkin.cls ≠ "java/lang/invoke/VarHandle" ∧ (parseMethodDescriptor yX5_isSkin.desc).map (fun d => d.parameters.length) = some 0 := by decide +kernel
abbrev wX5_isSkin : List Cond := Cond.code yX5_isSkin cX5_isSkin 3 (some .boolean) :: wsL_law
def F_X5_isSkin_L20 (t_length : Nat) (t_text : Nat → Int32) : Nat → Int32 → Nat → Nat → Nat → Int32 → (Nat → Int32) → Int32 × Nat × Nat × Int32 × (Nat → Int32)
  | 0, l1_9, k2_10, t_at_11, t_begin_12, t_told_13, t_is_14 => (l1_9, t_at_11, t_begin_12, t_told_13, t_is_14)
  | n_15 + 1, l1_9, k2_10, t_at_11, t_begin_12, t_told_13, t_is_14 => if 7 ≤ k2_10 then (l1_9, t_at_11, t_begin_12, t_told_13, t_is_14) else if l1_9 = 0 then (l1_9, t_at_11, t_begin_12, t_told_13, t_is_14) else x_nm (α := Int32) (if k2_10 < 2 then 1 else if k2_10 = 4 then 1 else 0) fun u_19 => x_nm (F_X5_highest (nI k2_10)) fun z_20 => x_nm (F_X5_number t_length t_text t_at_11 u_19 z_20) fun u_29 => x_nm (upd t_is_14 (9 + k2_10) u_29.2.2.2) fun t_is_30 => F_X5_isSkin_L20 t_length t_text n_15 u_29.1 (k2_10 + 1) u_29.2.1 u_29.2.2.1 u_29.2.2.2 t_is_30
def F_X5_isSkin (t_length : Nat) (t_text : Nat → Int32) (t_at : Nat) (t_begin : Nat) (t_told : Int32) (t_is : Nat → Int32) (t_hasSkin : Int32) : Int32 × Nat × Nat × Int32 × Int32 × (Nat → Int32) :=
  x_nm (α := Int32) (if t_hasSkin = 0 then 1 else 0) fun u_2 => x_nm (α := Int32 × Nat × Nat × Int32 × (Nat → Int32)) (F_X5_isSkin_L20 t_length t_text (7 + 1) u_2 0 t_at t_begin t_told t_is) fun u_8 => (u_8.1, u_8.2.1, u_8.2.2.1, u_8.2.2.2.1, 1, u_8.2.2.2.2)
set_option maxHeartbeats 4000000 in
set_option maxRecDepth 100000 in
theorem m_X5_isSkin (l : Launch) (g : x_G) (tA tA_text tA_is tA_doings tA_doing tA_row tA_isKept tA_best tA_heats tA_orders tA_has tA_salt tA_crumbs : Nat) (t_length : Nat) (t_at : Nat) (t_begin : Nat) (t_told : Int32) (t_items : Int32) (t_when : Int32) (t_most : Int32) (t_mostAt : Int32) (t_hiss : Int32) (t_tests : Nat) (t_traced : Int64) (t_hasSkin : Int32) (t_hasBend : Int32) (t_text : Nat → Int32) (t_is : Nat → Int32) (h_0 : t_length ≤ 300) (h_1 : t_at ≤ 300) (h_2 : t_begin ≤ 300) : x_MetI l yX5_isSkin wX5_isSkin rX5_isSkin g [.ref tA] [(tA, .inr (5, [.int (nI t_length), .ref tA_text, .int (nI t_at), .int (nI t_begin), .int t_told, .ref tA_is, .ref tA_doings, .ref tA_doing, .int t_items, .ref tA_row, .ref tA_isKept, .int t_when, .int t_most, .int t_mostAt, .int t_hiss, .ref tA_best, .ref tA_heats, .ref tA_orders, .ref tA_has, .int (nI t_tests), .ref tA_salt, .ref tA_crumbs, .long t_traced, .int t_hasSkin, .int t_hasBend])), (tA_text, .inl (g.2.1 2, 300, .inl t_text)), (tA_is, .inl (g.2.1 0, 18, .inl t_is))] (fun (r : Int32) (u : Nat × Nat × Int32 × Int32 × (Nat → Int32)) => (((r, u) = F_X5_isSkin t_length t_text t_at t_begin t_told t_is t_hasSkin) ∧ (r = 0 ∨ r = 1)) ∧ (u.1 ≤ 300) ∧ (u.2.1 ≤ 300) ∧ (t_at ≤ u.1)) (fun u => [(tA, .inr (5, [.int (nI t_length), .ref tA_text, .int (nI u.1), .int (nI u.2.1), .int u.2.2.1, .ref tA_is, .ref tA_doings, .ref tA_doing, .int t_items, .ref tA_row, .ref tA_isKept, .int t_when, .int t_most, .int t_mostAt, .int t_hiss, .ref tA_best, .ref tA_heats, .ref tA_orders, .ref tA_has, .int (nI t_tests), .ref tA_salt, .ref tA_crumbs, .long t_traced, .int u.2.2.2.1, .int t_hasBend])), (tA_text, .inl (g.2.1 2, 300, .inl t_text)), (tA_is, .inl (g.2.1 0, 18, .inl u.2.2.2.2))]) := by
  refine x_startI (cc := cX5_isSkin) (maxL := 3) (by decide) rfl (Nat.le_of_ble_eq_true rfl) ?_
  intro p e s m args below meth c Q A ls H locs hx hb hml hown hts hK hX hP hD hS hA hl RET
  have hown : s.vm.findClass RX5 = some m.cls := hown
  have hl : lv_has ls 3 [(0, .ref tA)] := hl
  obtain ⟨o_0, hO⟩ : ∃ z, z = F_X5_isSkin t_length t_text t_at t_begin t_told t_is t_hasSkin := ⟨_, rfl⟩
  have E := hO
  rw [F_X5_isSkin.eq_1] at E
  refine lv_aload_n hx hb dX5_isSkin_0 rfl (lv_at hl 0 rfl) ?_
  refine va_get (ci := 5) (v := .int t_hasSkin) (C := RX5) (T := TX5) (N := 25) hx hb hts inlX5 hown hK.1 hP 0 rfl rfl 23 (by decide) (hts _ kw_287) (fun _ h9 => h9) rfl dX5_isSkin_1 ?_
  obtain ⟨o_2, E_2, E⟩ := x_nm_ex E
  have J_2 : ∀ (v_1 : Int32), o_2 = v_1 → (v_1 = 0 ∨ v_1 = 1) → ∀ (H : Heap) (locs : List Loc) (ls : Array Slot), va_P g.1 vwCl [(tA, .inr (5, [.int (nI t_length), .ref tA_text, .int (nI t_at), .int (nI t_begin), .int t_told, .ref tA_is, .ref tA_doings, .ref tA_doing, .int t_items, .ref tA_row, .ref tA_isKept, .int t_when, .int t_most, .int t_mostAt, .int t_hiss, .ref tA_best, .ref tA_heats, .ref tA_orders, .ref tA_has, .int (nI t_tests), .ref tA_salt, .ref tA_crumbs, .long t_traced, .int t_hasSkin, .int t_hasBend])), (tA_text, .inl (g.2.1 2, 300, .inl t_text)), (tA_is, .inl (g.2.1 0, 18, .inl t_is))] H → va_D A [(tA, .inr (5, [.int (nI t_length), .ref tA_text, .int (nI t_at), .int (nI t_begin), .int t_told, .ref tA_is, .ref tA_doings, .ref tA_doing, .int t_items, .ref tA_row, .ref tA_isKept, .int t_when, .int t_most, .int t_mostAt, .int t_hiss, .ref tA_best, .ref tA_heats, .ref tA_orders, .ref tA_has, .int (nI t_tests), .ref tA_salt, .ref tA_crumbs, .long t_traced, .int t_hasSkin, .int t_hasBend])), (tA_text, .inl (g.2.1 2, 300, .inl t_text)), (tA_is, .inl (g.2.1 0, 18, .inl t_is))] → va_S A s.heap H locs → lv_has ls 3 [(0, .ref tA)] → W p l e rX5_isSkin s m args below meth c H locs 0 0 Q (F0 m 12 ls [.int v_1]) := by
    intro v_1 hE f_2_0 H locs ls hP hD hS hl
    try rw [hE] at E
    refine lv_istore_n (lv' := [(1, .int v_1), (0, .ref tA)]) hx hb dX5_isSkin_12 rfl hl (by decide) rfl (fun ls hl => ?_)
    refine lv_aload_n hx hb dX5_isSkin_13 rfl (lv_at hl 1 rfl) ?_
    refine lv_iconst (v := 1) hx hb dX5_isSkin_14 (by decide) ?_
    refine va_put (ci := 5) (v := .int 1) (ty := .boolean) (C := RX5) (T := TX5) (N := 25) hx hb hts inlX5 tyX5 tyX5_ok nmX5 hown hK.1 hP hD hS 0 rfl rfl 23 (by decide) (hts _ kw_287) (fun _ h9 => h9) rfl (tyX5_ok 23 (by decide)) (x_nar (Or.inr rfl)) rfl (Nat.le_of_ble_eq_true rfl) dX5_isSkin_15 (fun H locs hP hD hS => ?_)
    have hP : va_P g.1 vwCl [(tA, .inr (5, [.int (nI t_length), .ref tA_text, .int (nI t_at), .int (nI t_begin), .int t_told, .ref tA_is, .ref tA_doings, .ref tA_doing, .int t_items, .ref tA_row, .ref tA_isKept, .int t_when, .int t_most, .int t_mostAt, .int t_hiss, .ref tA_best, .ref tA_heats, .ref tA_orders, .ref tA_has, .int (nI t_tests), .ref tA_salt, .ref tA_crumbs, .long t_traced, .int 1, .int t_hasBend])), (tA_text, .inl (g.2.1 2, 300, .inl t_text)), (tA_is, .inl (g.2.1 0, 18, .inl t_is))] H := hP
    have hD : va_D A [(tA, .inr (5, [.int (nI t_length), .ref tA_text, .int (nI t_at), .int (nI t_begin), .int t_told, .ref tA_is, .ref tA_doings, .ref tA_doing, .int t_items, .ref tA_row, .ref tA_isKept, .int t_when, .int t_most, .int t_mostAt, .int t_hiss, .ref tA_best, .ref tA_heats, .ref tA_orders, .ref tA_has, .int (nI t_tests), .ref tA_salt, .ref tA_crumbs, .long t_traced, .int 1, .int t_hasBend])), (tA_text, .inl (g.2.1 2, 300, .inl t_text)), (tA_is, .inl (g.2.1 0, 18, .inl t_is))] := hD
    refine lv_iconst (v := 0) hx hb dX5_isSkin_18 (by decide) ?_
    refine lv_istore_n (lv' := [(2, .int 0), (1, .int v_1), (0, .ref tA)]) hx hb dX5_isSkin_19 rfl hl (by decide) rfl (fun ls hl => ?_)
    obtain ⟨o_8, E_8, E⟩ := x_nm_ex E
    have J_8 : ∀ (l1_3 : Int32) (t_at_4 : Nat) (t_begin_5 : Nat) (t_told_6 : Int32) (t_is_7 : Nat → Int32), o_8 = (l1_3, t_at_4, t_begin_5, t_told_6, t_is_7) → (t_at_4 ≤ 300) → (t_begin_5 ≤ 300) → (t_at ≤ t_at_4) → (l1_3 = 0 ∨ l1_3 = 1) → ∀ (H : Heap) (locs : List Loc) (ls : Array Slot), va_P g.1 vwCl [(tA, .inr (5, [.int (nI t_length), .ref tA_text, .int (nI t_at_4), .int (nI t_begin_5), .int t_told_6, .ref tA_is, .ref tA_doings, .ref tA_doing, .int t_items, .ref tA_row, .ref tA_isKept, .int t_when, .int t_most, .int t_mostAt, .int t_hiss, .ref tA_best, .ref tA_heats, .ref tA_orders, .ref tA_has, .int (nI t_tests), .ref tA_salt, .ref tA_crumbs, .long t_traced, .int 1, .int t_hasBend])), (tA_text, .inl (g.2.1 2, 300, .inl t_text)), (tA_is, .inl (g.2.1 0, 18, .inl t_is_7))] H → va_D A [(tA, .inr (5, [.int (nI t_length), .ref tA_text, .int (nI t_at_4), .int (nI t_begin_5), .int t_told_6, .ref tA_is, .ref tA_doings, .ref tA_doing, .int t_items, .ref tA_row, .ref tA_isKept, .int t_when, .int t_most, .int t_mostAt, .int t_hiss, .ref tA_best, .ref tA_heats, .ref tA_orders, .ref tA_has, .int (nI t_tests), .ref tA_salt, .ref tA_crumbs, .long t_traced, .int 1, .int t_hasBend])), (tA_text, .inl (g.2.1 2, 300, .inl t_text)), (tA_is, .inl (g.2.1 0, 18, .inl t_is_7))] → va_S A s.heap H locs → lv_has ls 3 [(1, .int l1_3)] → W p l e rX5_isSkin s m args below meth c H locs 0 0 Q (F0 m 73 ls []) := by
      intro l1_3 t_at_4 t_begin_5 t_told_6 t_is_7 hE f_8_0 f_8_1 f_8_2 f_8_3 H locs ls hP hD hS hl
      try rw [hE] at E
      refine lv_iload_n hx hb dX5_isSkin_73 rfl (lv_at hl 0 rfl) ?_
      exact RET l1_3 (t_at_4, t_begin_5, t_told_6, 1, t_is_7) H locs _ _ ⟨⟨E.symm.trans hO, (by assumption)⟩, (show t_at_4 ≤ 300 by first | omega | assumption | exact Or.inl rfl | exact Or.inr (by omega)), (show t_begin_5 ≤ 300 by first | omega | assumption | exact Or.inl rfl | exact Or.inr (by omega)), (show t_at ≤ t_at_4 by first | omega | assumption | exact Or.inl rfl | exact Or.inr (by omega))⟩ (x_nar (by assumption)) hP hD hS dX5_isSkin_74
    have E := E_8
    have L_15 : ∀ (n_15 : Nat) (l1_9 : Int32) (k2_10 : Nat) (t_at_11 : Nat) (t_begin_12 : Nat) (t_told_13 : Int32) (t_is_14 : Nat → Int32), (k2_10 ≤ 7) → (t_at_11 ≤ 300) → (t_begin_12 ≤ 300) → (t_at ≤ t_at_11) → ((7 - k2_10) < n_15) → (l1_9 = 0 ∨ l1_9 = 1) → o_8 = F_X5_isSkin_L20 t_length t_text n_15 l1_9 k2_10 t_at_11 t_begin_12 t_told_13 t_is_14 → ∀ (H : Heap) (locs : List Loc) (ls : Array Slot), va_P g.1 vwCl [(tA, .inr (5, [.int (nI t_length), .ref tA_text, .int (nI t_at_11), .int (nI t_begin_12), .int t_told_13, .ref tA_is, .ref tA_doings, .ref tA_doing, .int t_items, .ref tA_row, .ref tA_isKept, .int t_when, .int t_most, .int t_mostAt, .int t_hiss, .ref tA_best, .ref tA_heats, .ref tA_orders, .ref tA_has, .int (nI t_tests), .ref tA_salt, .ref tA_crumbs, .long t_traced, .int 1, .int t_hasBend])), (tA_text, .inl (g.2.1 2, 300, .inl t_text)), (tA_is, .inl (g.2.1 0, 18, .inl t_is_14))] H → va_D A [(tA, .inr (5, [.int (nI t_length), .ref tA_text, .int (nI t_at_11), .int (nI t_begin_12), .int t_told_13, .ref tA_is, .ref tA_doings, .ref tA_doing, .int t_items, .ref tA_row, .ref tA_isKept, .int t_when, .int t_most, .int t_mostAt, .int t_hiss, .ref tA_best, .ref tA_heats, .ref tA_orders, .ref tA_has, .int (nI t_tests), .ref tA_salt, .ref tA_crumbs, .long t_traced, .int 1, .int t_hasBend])), (tA_text, .inl (g.2.1 2, 300, .inl t_text)), (tA_is, .inl (g.2.1 0, 18, .inl t_is_14))] → va_S A s.heap H locs → lv_has ls 3 [(0, .ref tA), (1, .int l1_9), (2, .int (nI k2_10))] → W p l e rX5_isSkin s m args below meth c H locs 0 0 Q (F0 m 20 ls []) := by
      intro n_15
      induction n_15 with
      | zero => intro l1_9 k2_10 t_at_11 t_begin_12 t_told_13 t_is_14 i_15_0 i_15_1 i_15_2 i_15_3 i_15_4 i_15_5; exact absurd i_15_4 (by omega)
      | succ n_15 ih_15 =>
        intro l1_9 k2_10 t_at_11 t_begin_12 t_told_13 t_is_14 i_15_0 i_15_1 i_15_2 i_15_3 i_15_4 i_15_5 E H locs ls hP hD hS hl
        rw [F_X5_isSkin_L20.eq_2] at E
        refine lv_iload_n hx hb dX5_isSkin_20 rfl (lv_at hl 2 rfl) ?_
        refine lv_bipush (v := 7) hx hb dX5_isSkin_21 (by decide) ?_
        refine x_icmp_ge (a := k2_10) (b := 7) (tgt := 73) hx hb (by omega) (by omega) dX5_isSkin_23 (by decide) (fun c_16 => ?_) (fun c_16 => ?_)
        · have E := x_pos E c_16
          exact J_8 l1_9 t_at_11 t_begin_12 t_told_13 t_is_14 E (by first | omega | assumption | rfl | exact Or.inl rfl | exact Or.inr (by omega)) (by first | omega | assumption | rfl | exact Or.inl rfl | exact Or.inr (by omega)) (by first | omega | assumption | rfl | exact Or.inl rfl | exact Or.inr (by omega)) (by assumption) H locs ls hP hD hS (lv_sub hl [1] rfl)
        · have E := x_neg E c_16
          refine lv_iload_n hx hb dX5_isSkin_26 rfl (lv_at hl 1 rfl) ?_
          refine lv_if_eq (tgt := 73) hx hb dX5_isSkin_27 (by decide) (fun c_17 => ?_) (fun c_17 => ?_)
          · have E := x_pos E c_17
            exact J_8 l1_9 t_at_11 t_begin_12 t_told_13 t_is_14 E (by first | omega | assumption | rfl | exact Or.inl rfl | exact Or.inr (by omega)) (by first | omega | assumption | rfl | exact Or.inl rfl | exact Or.inr (by omega)) (by first | omega | assumption | rfl | exact Or.inl rfl | exact Or.inr (by omega)) (by assumption) H locs ls hP hD hS (lv_sub hl [1] rfl)
          · have E := x_neg E c_17
            refine lv_aload_n hx hb dX5_isSkin_30 rfl (lv_at hl 0 rfl) ?_
            refine lv_iload_n hx hb dX5_isSkin_31 rfl (lv_at hl 2 rfl) ?_
            refine lv_iconst (v := 2) hx hb dX5_isSkin_32 (by decide) ?_
            obtain ⟨o_19, E_19, E⟩ := x_nm_ex E
            have J_19 : ∀ (v_18 : Int32), o_19 = v_18 → ∀ (H : Heap) (locs : List Loc) (ls : Array Slot), va_P g.1 vwCl [(tA, .inr (5, [.int (nI t_length), .ref tA_text, .int (nI t_at_11), .int (nI t_begin_12), .int t_told_13, .ref tA_is, .ref tA_doings, .ref tA_doing, .int t_items, .ref tA_row, .ref tA_isKept, .int t_when, .int t_most, .int t_mostAt, .int t_hiss, .ref tA_best, .ref tA_heats, .ref tA_orders, .ref tA_has, .int (nI t_tests), .ref tA_salt, .ref tA_crumbs, .long t_traced, .int 1, .int t_hasBend])), (tA_text, .inl (g.2.1 2, 300, .inl t_text)), (tA_is, .inl (g.2.1 0, 18, .inl t_is_14))] H → va_D A [(tA, .inr (5, [.int (nI t_length), .ref tA_text, .int (nI t_at_11), .int (nI t_begin_12), .int t_told_13, .ref tA_is, .ref tA_doings, .ref tA_doing, .int t_items, .ref tA_row, .ref tA_isKept, .int t_when, .int t_most, .int t_mostAt, .int t_hiss, .ref tA_best, .ref tA_heats, .ref tA_orders, .ref tA_has, .int (nI t_tests), .ref tA_salt, .ref tA_crumbs, .long t_traced, .int 1, .int t_hasBend])), (tA_text, .inl (g.2.1 2, 300, .inl t_text)), (tA_is, .inl (g.2.1 0, 18, .inl t_is_14))] → va_S A s.heap H locs → lv_has ls 3 [(0, .ref tA), (2, .int (nI k2_10))] → W p l e rX5_isSkin s m args below meth c H locs 0 0 Q (F0 m 46 ls [.int v_18, .ref tA]) := by
              intro v_18 hE  H locs ls hP hD hS hl
              try rw [hE] at E
              refine lv_iload_n hx hb dX5_isSkin_46 rfl (lv_at hl 1 rfl) ?_
              refine x_callS0 ⟨hx, hb, hml, hown, hts⟩ hK hX hP hD hS hA (m_X5_highest l g (nI k2_10)) (va_cwS 1 hts (x_gS kw_317 kw_318 kw_5 kw_319) rfl rfl rfl vX5_highestS ⟨Nat.le_of_ble_eq_true rfl, Nat.le_of_ble_eq_true rfl⟩) rfl hl.1 rfl (Nat.le_of_ble_eq_true rfl) dX5_isSkin_47 ⟨Nat.zero_le _, Nat.zero_le _⟩ (fun z_20 _ H locs hw_21 hP hD hS => ?_)
              have E := x_nm_eq E hw_21
              refine x_callVi (w2 := fun u => [(tA, .inr (5, [.int (nI t_length), .ref tA_text, .int (nI u.1), .int (nI u.2.1), .int u.2.2, .ref tA_is, .ref tA_doings, .ref tA_doing, .int t_items, .ref tA_row, .ref tA_isKept, .int t_when, .int t_most, .int t_mostAt, .int t_hiss, .ref tA_best, .ref tA_heats, .ref tA_orders, .ref tA_has, .int (nI t_tests), .ref tA_salt, .ref tA_crumbs, .long t_traced, .int 1, .int t_hasBend])), (tA_text, .inl (g.2.1 2, 300, .inl t_text)), (tA_is, .inl (g.2.1 0, 18, .inl t_is_14))]) (wr := [(tA_is, .inl (g.2.1 0, 18, .inl t_is_14))]) [0, 1] [2] [1, 2, 0] 0 5 ⟨hx, hb, hml, hown, hts⟩ hK hX hP hD hS hA (m_X5_number l g tA tA_text tA_is tA_doings tA_doing tA_row tA_isKept tA_best tA_heats tA_orders tA_has tA_salt tA_crumbs t_length t_at_11 t_begin_12 t_told_13 t_items t_when t_most t_mostAt t_hiss t_tests t_traced 1 t_hasBend t_text v_18 z_20 (by first | assumption | omega | exact x_e8 (by assumption) (by assumption)) (by first | assumption | omega | exact x_e8 (by assumption) (by assumption))) (cwV 2 hts (x_gV kw_320 kw_321 kw_322 kw_5 kw_323) rfl rfl rfl vX5_number ⟨Nat.le_of_ble_eq_true rfl, Nat.le_of_ble_eq_true rfl⟩) rfl rfl rfl rfl rfl rfl rfl (by decide) (fun _ => rfl) rfl rfl hl.1 rfl (Nat.le_of_ble_eq_true rfl) dX5_isSkin_50 ⟨Nat.zero_le _, Nat.zero_le _⟩ (fun z_26 u H locs hw_27 hP hD hS => ?_)
              obtain ⟨t_at_23, t_begin_24, t_told_25⟩ := u
              obtain ⟨⟨hw_27, b_28⟩, he⟩ := hw_27
              obtain ⟨en_50_0, en_50_1, en_50_2⟩ := he
              have en_50_0 : t_at_23 ≤ 300 := en_50_0
              have en_50_1 : t_begin_24 ≤ t_at_23 := en_50_1
              have en_50_2 : t_at_11 ≤ t_at_23 := en_50_2
              have hP : va_P g.1 vwCl [(tA, .inr (5, [.int (nI t_length), .ref tA_text, .int (nI t_at_23), .int (nI t_begin_24), .int t_told_25, .ref tA_is, .ref tA_doings, .ref tA_doing, .int t_items, .ref tA_row, .ref tA_isKept, .int t_when, .int t_most, .int t_mostAt, .int t_hiss, .ref tA_best, .ref tA_heats, .ref tA_orders, .ref tA_has, .int (nI t_tests), .ref tA_salt, .ref tA_crumbs, .long t_traced, .int 1, .int t_hasBend])), (tA_text, .inl (g.2.1 2, 300, .inl t_text)), (tA_is, .inl (g.2.1 0, 18, .inl t_is_14))] H := hP
              have hD : va_D A [(tA, .inr (5, [.int (nI t_length), .ref tA_text, .int (nI t_at_23), .int (nI t_begin_24), .int t_told_25, .ref tA_is, .ref tA_doings, .ref tA_doing, .int t_items, .ref tA_row, .ref tA_isKept, .int t_when, .int t_most, .int t_mostAt, .int t_hiss, .ref tA_best, .ref tA_heats, .ref tA_orders, .ref tA_has, .int (nI t_tests), .ref tA_salt, .ref tA_crumbs, .long t_traced, .int 1, .int t_hasBend])), (tA_text, .inl (g.2.1 2, 300, .inl t_text)), (tA_is, .inl (g.2.1 0, 18, .inl t_is_14))] := hD
              have E := x_nm_eq E hw_27
              refine lv_istore_n (lv' := [(1, .int z_26), (0, .ref tA), (2, .int (nI k2_10))]) hx hb dX5_isSkin_53 rfl hl (by decide) rfl (fun ls hl => ?_)
              refine lv_aload_n hx hb dX5_isSkin_54 rfl (lv_at hl 1 rfl) ?_
              refine va_get (ci := 5) (v := .ref tA_is) (C := RX5) (T := TX5) (N := 25) hx hb hts inlX5 hown hK.1 hP 0 rfl rfl 5 (by decide) (hts _ kw_94) (fun _ h9 => h9) rfl dX5_isSkin_55 ?_
              refine lv_bipush (v := 9) hx hb dX5_isSkin_58 (by decide) ?_
              refine lv_iload_n hx hb dX5_isSkin_60 rfl (lv_at hl 2 rfl) ?_
              refine lv_iadd hx hb dX5_isSkin_61 ?_
              refine x_eqi (nI_add 9 k2_10) ?_
              refine lv_aload_n hx hb dX5_isSkin_62 rfl (lv_at hl 1 rfl) ?_
              refine va_get (ci := 5) (v := .int t_told_25) (C := RX5) (T := TX5) (N := 25) hx hb hts inlX5 hown hK.1 hP 0 rfl rfl 4 (by decide) (hts _ kw_316) (fun _ h9 => h9) rfl dX5_isSkin_63 ?_
              refine x_iastN hx hb hK hP hD hS 2 (9 + k2_10) rfl (by omega) (by decide) dX5_isSkin_66 (fun t_is_30 H locs hf hP hD hS => ?_)
              have hP : va_P g.1 vwCl [(tA, .inr (5, [.int (nI t_length), .ref tA_text, .int (nI t_at_23), .int (nI t_begin_24), .int t_told_25, .ref tA_is, .ref tA_doings, .ref tA_doing, .int t_items, .ref tA_row, .ref tA_isKept, .int t_when, .int t_most, .int t_mostAt, .int t_hiss, .ref tA_best, .ref tA_heats, .ref tA_orders, .ref tA_has, .int (nI t_tests), .ref tA_salt, .ref tA_crumbs, .long t_traced, .int 1, .int t_hasBend])), (tA_text, .inl (g.2.1 2, 300, .inl t_text)), (tA_is, .inl (g.2.1 0, 18, .inl t_is_30))] H := hP
              have hD : va_D A [(tA, .inr (5, [.int (nI t_length), .ref tA_text, .int (nI t_at_23), .int (nI t_begin_24), .int t_told_25, .ref tA_is, .ref tA_doings, .ref tA_doing, .int t_items, .ref tA_row, .ref tA_isKept, .int t_when, .int t_most, .int t_mostAt, .int t_hiss, .ref tA_best, .ref tA_heats, .ref tA_orders, .ref tA_has, .int (nI t_tests), .ref tA_salt, .ref tA_crumbs, .long t_traced, .int 1, .int t_hasBend])), (tA_text, .inl (g.2.1 2, 300, .inl t_text)), (tA_is, .inl (g.2.1 0, 18, .inl t_is_30))] := hD
              have E := x_nm_eq E hf
              refine lv_iinc (v := nI (k2_10 + 1)) (lv' := [(2, .int (nI (k2_10 + 1))), (1, .int z_26), (0, .ref tA)]) hx hb dX5_isSkin_67 hl (k := 2) rfl (nI_1 k2_10) (by decide) rfl (fun ls hl => ?_)
              refine lv_goto (tgt := 20) hx hb dX5_isSkin_70 (by decide) ?_
              exact ih_15 z_26 (k2_10 + 1) t_at_23 t_begin_24 t_told_25 t_is_30 (by first | omega | assumption | exact Eq.trans (by assumption) (by assumption)) (by first | omega | assumption | exact Eq.trans (by assumption) (by assumption)) (by first | omega | assumption | exact Eq.trans (by assumption) (by assumption)) (by first | omega | assumption | exact Eq.trans (by assumption) (by assumption)) (by omega) (by assumption) E H locs ls hP hD hS (lv_sub hl [2, 1, 0] rfl)
            have E := E_19
            refine x_icmp_lt (a := k2_10) (b := 2) (tgt := 41) hx hb (by omega) (by omega) dX5_isSkin_33 (by decide) (fun c_31 => ?_) (fun c_31 => ?_)
            · have E := x_pos E c_31
              refine lv_iconst (v := 1) hx hb dX5_isSkin_41 (by decide) ?_
              refine lv_goto (tgt := 46) hx hb dX5_isSkin_42 (by decide) ?_
              exact J_19 1 E  H locs ls hP hD hS (lv_sub hl [0, 2] rfl)
            · have E := x_neg E c_31
              refine lv_iload_n hx hb dX5_isSkin_36 rfl (lv_at hl 2 rfl) ?_
              refine lv_iconst (v := 4) hx hb dX5_isSkin_37 (by decide) ?_
              refine x_icmp_ne (a := k2_10) (b := 4) (tgt := 45) hx hb (by omega) (by omega) dX5_isSkin_38 (by decide) (fun c_32 => ?_) (fun c_32 => ?_)
              · have E := x_neg E c_32
                refine lv_iconst (v := 0) hx hb dX5_isSkin_45 (by decide) ?_
                exact J_19 0 E  H locs ls hP hD hS (lv_sub hl [0, 2] rfl)
              · have E := x_pos E c_32
                refine lv_iconst (v := 1) hx hb dX5_isSkin_41 (by decide) ?_
                refine lv_goto (tgt := 46) hx hb dX5_isSkin_42 (by decide) ?_
                exact J_19 1 E  H locs ls hP hD hS (lv_sub hl [0, 2] rfl)
    exact L_15 (7 + 1) v_1 0 t_at t_begin t_told t_is (by first | omega | assumption | rfl) (by first | omega | assumption | rfl) (by first | omega | assumption | rfl) (by first | omega | assumption | rfl) (by omega) (by assumption) E H locs ls hP hD hS (lv_sub hl [2, 1, 0] rfl)
  have E := E_2
  refine x_if_neI (tgt := 11) hx hb dX5_isSkin_4 (by decide) (fun c_33 => ?_) (fun c_33 => ?_)
  · have E := x_neg E c_33
    refine lv_iconst (v := 0) hx hb dX5_isSkin_11 (by decide) ?_
    exact J_2 0 E (Or.inl rfl) H locs ls hP hD hS (lv_sub hl [0] rfl)
  · have E := x_pos E c_33
    refine lv_iconst (v := 1) hx hb dX5_isSkin_7 (by decide) ?_
    refine lv_goto (tgt := 12) hx hb dX5_isSkin_8 (by decide) ?_
    exact J_2 1 E (Or.inr rfl) H locs ls hP hD hS (lv_sub hl [0] rfl)
abbrev rX5_isBend : Room := { frames := 2, cells := 0, slots := 0, locals := 48 }
theorem vX5_isBend : yX5_isBend.cls = RX5 ∧ yX5_isBend.cls ≠ "java/lang/invoke/MethodHandle" ∧ yX5_isBend.cls ≠ "java/lang/invoke/VarHandle" ∧ (parseMethodDescriptor yX5_isBend.desc).map (fun d => d.parameters.length) = some 0 := by decide +kernel
abbrev wX5_isBend : List Cond := Cond.code yX5_isBend cX5_isBend 2 (some .boolean) :: wsL_law
def F_X5_isBend (t_length : Nat) (t_text : Nat → Int32) (t_at : Nat) (t_begin : Nat) (t_told : Int32) (t_is : Nat → Int32) (t_hasBend : Int32) : Int32 × Nat × Nat × Int32 × Int32 × (Nat → Int32) :=
  if t_hasBend = 0 then x_nm (F_X5_number t_length t_text t_at 0 3) fun u_8 => if u_8.1 = 0 then (0, u_8.2.1, u_8.2.2.1, u_8.2.2.2, t_hasBend, t_is) else x_nm (upd t_is 16 u_8.2.2.2) fun t_is_10 => x_nm (F_X5_number t_length t_text u_8.2.1 0 99) fun u_17 => x_nm (upd t_is_10 17 u_17.2.2.2) fun t_is_18 => (u_17.1, u_17.2.1, u_17.2.2.1, u_17.2.2.2, 1, t_is_18) else (0, t_at, t_begin, t_told, t_hasBend, t_is)
set_option maxHeartbeats 4000000 in
set_option maxRecDepth 100000 in
theorem m_X5_isBend (l : Launch) (g : x_G) (tA tA_text tA_is tA_doings tA_doing tA_row tA_isKept tA_best tA_heats tA_orders tA_has tA_salt tA_crumbs : Nat) (t_length : Nat) (t_at : Nat) (t_begin : Nat) (t_told : Int32) (t_items : Int32) (t_when : Int32) (t_most : Int32) (t_mostAt : Int32) (t_hiss : Int32) (t_tests : Nat) (t_traced : Int64) (t_hasSkin : Int32) (t_hasBend : Int32) (t_text : Nat → Int32) (t_is : Nat → Int32) (h_0 : t_length ≤ 300) (h_1 : t_at ≤ 300) (h_2 : t_begin ≤ 300) : x_MetI l yX5_isBend wX5_isBend rX5_isBend g [.ref tA] [(tA, .inr (5, [.int (nI t_length), .ref tA_text, .int (nI t_at), .int (nI t_begin), .int t_told, .ref tA_is, .ref tA_doings, .ref tA_doing, .int t_items, .ref tA_row, .ref tA_isKept, .int t_when, .int t_most, .int t_mostAt, .int t_hiss, .ref tA_best, .ref tA_heats, .ref tA_orders, .ref tA_has, .int (nI t_tests), .ref tA_salt, .ref tA_crumbs, .long t_traced, .int t_hasSkin, .int t_hasBend])), (tA_text, .inl (g.2.1 2, 300, .inl t_text)), (tA_is, .inl (g.2.1 0, 18, .inl t_is))] (fun (r : Int32) (u : Nat × Nat × Int32 × Int32 × (Nat → Int32)) => (((r, u) = F_X5_isBend t_length t_text t_at t_begin t_told t_is t_hasBend) ∧ (r = 0 ∨ r = 1)) ∧ (u.1 ≤ 300) ∧ (u.2.1 ≤ 300) ∧ (t_at ≤ u.1)) (fun u => [(tA, .inr (5, [.int (nI t_length), .ref tA_text, .int (nI u.1), .int (nI u.2.1), .int u.2.2.1, .ref tA_is, .ref tA_doings, .ref tA_doing, .int t_items, .ref tA_row, .ref tA_isKept, .int t_when, .int t_most, .int t_mostAt, .int t_hiss, .ref tA_best, .ref tA_heats, .ref tA_orders, .ref tA_has, .int (nI t_tests), .ref tA_salt, .ref tA_crumbs, .long t_traced, .int t_hasSkin, .int u.2.2.2.1])), (tA_text, .inl (g.2.1 2, 300, .inl t_text)), (tA_is, .inl (g.2.1 0, 18, .inl u.2.2.2.2))]) := by
  refine x_startI (cc := cX5_isBend) (maxL := 2) (by decide) rfl (Nat.le_of_ble_eq_true rfl) ?_
  intro p e s m args below meth c Q A ls H locs hx hb hml hown hts hK hX hP hD hS hA hl RET
  have hown : s.vm.findClass RX5 = some m.cls := hown
  have hl : lv_has ls 2 [(0, .ref tA)] := hl
  obtain ⟨o_0, hO⟩ : ∃ z, z = F_X5_isBend t_length t_text t_at t_begin t_told t_is t_hasBend := ⟨_, rfl⟩
  have E := hO
  rw [F_X5_isBend.eq_1] at E
  refine lv_aload_n hx hb dX5_isBend_0 rfl (lv_at hl 0 rfl) ?_
  refine va_get (ci := 5) (v := .int t_hasBend) (C := RX5) (T := TX5) (N := 25) hx hb hts inlX5 hown hK.1 hP 0 rfl rfl 24 (by decide) (hts _ kw_288) (fun _ h9 => h9) rfl dX5_isBend_1 ?_
  refine x_if_neI (tgt := 16) hx hb dX5_isBend_4 (by decide) (fun c_1 => ?_) (fun c_1 => ?_)
  · have E := x_neg E c_1
    refine lv_iconst (v := 0) hx hb dX5_isBend_16 (by decide) ?_
    exact RET 0 (t_at, t_begin, t_told, t_hasBend, t_is) H locs _ _ ⟨⟨E.symm.trans hO, (Or.inl rfl)⟩, (show t_at ≤ 300 by first | omega | assumption | exact Or.inl rfl | exact Or.inr (by omega)), (show t_begin ≤ 300 by first | omega | assumption | exact Or.inl rfl | exact Or.inr (by omega)), (show t_at ≤ t_at by first | omega | assumption | exact Or.inl rfl | exact Or.inr (by omega))⟩ (x_nar (Or.inl rfl)) hP hD hS dX5_isBend_17
  · have E := x_pos E c_1
    refine lv_aload_n hx hb dX5_isBend_7 rfl (lv_at hl 0 rfl) ?_
    refine lv_iconst (v := 0) hx hb dX5_isBend_8 (by decide) ?_
    refine lv_iconst (v := 3) hx hb dX5_isBend_9 (by decide) ?_
    refine x_callVi (w2 := fun u => [(tA, .inr (5, [.int (nI t_length), .ref tA_text, .int (nI u.1), .int (nI u.2.1), .int u.2.2, .ref tA_is, .ref tA_doings, .ref tA_doing, .int t_items, .ref tA_row, .ref tA_isKept, .int t_when, .int t_most, .int t_mostAt, .int t_hiss, .ref tA_best, .ref tA_heats, .ref tA_orders, .ref tA_has, .int (nI t_tests), .ref tA_salt, .ref tA_crumbs, .long t_traced, .int t_hasSkin, .int t_hasBend])), (tA_text, .inl (g.2.1 2, 300, .inl t_text)), (tA_is, .inl (g.2.1 0, 18, .inl t_is))]) (wr := [(tA_is, .inl (g.2.1 0, 18, .inl t_is))]) [0, 1] [2] [1, 2, 0] 0 5 ⟨hx, hb, hml, hown, hts⟩ hK hX hP hD hS hA (m_X5_number l g tA tA_text tA_is tA_doings tA_doing tA_row tA_isKept tA_best tA_heats tA_orders tA_has tA_salt tA_crumbs t_length t_at t_begin t_told t_items t_when t_most t_mostAt t_hiss t_tests t_traced t_hasSkin t_hasBend t_text 0 3 (by first | assumption | omega | exact x_e8 (by assumption) (by assumption)) (by first | assumption | omega | exact x_e8 (by assumption) (by assumption))) (cwV 2 hts (x_gV kw_320 kw_321 kw_322 kw_5 kw_323) rfl rfl rfl vX5_number ⟨Nat.le_of_ble_eq_true rfl, Nat.le_of_ble_eq_true rfl⟩) rfl rfl rfl rfl rfl rfl rfl (by decide) (fun _ => rfl) rfl rfl hl.1 rfl (Nat.le_of_ble_eq_true rfl) dX5_isBend_10 ⟨Nat.zero_le _, Nat.zero_le _⟩ (fun z_5 u H locs hw_6 hP hD hS => ?_)
    obtain ⟨t_at_2, t_begin_3, t_told_4⟩ := u
    obtain ⟨⟨hw_6, b_7⟩, he⟩ := hw_6
    obtain ⟨en_10_0, en_10_1, en_10_2⟩ := he
    have en_10_0 : t_at_2 ≤ 300 := en_10_0
    have en_10_1 : t_begin_3 ≤ t_at_2 := en_10_1
    have en_10_2 : t_at ≤ t_at_2 := en_10_2
    have hP : va_P g.1 vwCl [(tA, .inr (5, [.int (nI t_length), .ref tA_text, .int (nI t_at_2), .int (nI t_begin_3), .int t_told_4, .ref tA_is, .ref tA_doings, .ref tA_doing, .int t_items, .ref tA_row, .ref tA_isKept, .int t_when, .int t_most, .int t_mostAt, .int t_hiss, .ref tA_best, .ref tA_heats, .ref tA_orders, .ref tA_has, .int (nI t_tests), .ref tA_salt, .ref tA_crumbs, .long t_traced, .int t_hasSkin, .int t_hasBend])), (tA_text, .inl (g.2.1 2, 300, .inl t_text)), (tA_is, .inl (g.2.1 0, 18, .inl t_is))] H := hP
    have hD : va_D A [(tA, .inr (5, [.int (nI t_length), .ref tA_text, .int (nI t_at_2), .int (nI t_begin_3), .int t_told_4, .ref tA_is, .ref tA_doings, .ref tA_doing, .int t_items, .ref tA_row, .ref tA_isKept, .int t_when, .int t_most, .int t_mostAt, .int t_hiss, .ref tA_best, .ref tA_heats, .ref tA_orders, .ref tA_has, .int (nI t_tests), .ref tA_salt, .ref tA_crumbs, .long t_traced, .int t_hasSkin, .int t_hasBend])), (tA_text, .inl (g.2.1 2, 300, .inl t_text)), (tA_is, .inl (g.2.1 0, 18, .inl t_is))] := hD
    have E := x_nm_eq E hw_6
    refine x_if_neI (tgt := 18) hx hb dX5_isBend_13 (by decide) (fun c_9 => ?_) (fun c_9 => ?_)
    · have E := x_neg E c_9
      refine lv_aload_n hx hb dX5_isBend_18 rfl (lv_at hl 0 rfl) ?_
      refine lv_iconst (v := 1) hx hb dX5_isBend_19 (by decide) ?_
      refine va_put (ci := 5) (v := .int 1) (ty := .boolean) (C := RX5) (T := TX5) (N := 25) hx hb hts inlX5 tyX5 tyX5_ok nmX5 hown hK.1 hP hD hS 0 rfl rfl 24 (by decide) (hts _ kw_288) (fun _ h9 => h9) rfl (tyX5_ok 24 (by decide)) (x_nar (Or.inr rfl)) rfl (Nat.le_of_ble_eq_true rfl) dX5_isBend_20 (fun H locs hP hD hS => ?_)
      have hP : va_P g.1 vwCl [(tA, .inr (5, [.int (nI t_length), .ref tA_text, .int (nI t_at_2), .int (nI t_begin_3), .int t_told_4, .ref tA_is, .ref tA_doings, .ref tA_doing, .int t_items, .ref tA_row, .ref tA_isKept, .int t_when, .int t_most, .int t_mostAt, .int t_hiss, .ref tA_best, .ref tA_heats, .ref tA_orders, .ref tA_has, .int (nI t_tests), .ref tA_salt, .ref tA_crumbs, .long t_traced, .int t_hasSkin, .int 1])), (tA_text, .inl (g.2.1 2, 300, .inl t_text)), (tA_is, .inl (g.2.1 0, 18, .inl t_is))] H := hP
      have hD : va_D A [(tA, .inr (5, [.int (nI t_length), .ref tA_text, .int (nI t_at_2), .int (nI t_begin_3), .int t_told_4, .ref tA_is, .ref tA_doings, .ref tA_doing, .int t_items, .ref tA_row, .ref tA_isKept, .int t_when, .int t_most, .int t_mostAt, .int t_hiss, .ref tA_best, .ref tA_heats, .ref tA_orders, .ref tA_has, .int (nI t_tests), .ref tA_salt, .ref tA_crumbs, .long t_traced, .int t_hasSkin, .int 1])), (tA_text, .inl (g.2.1 2, 300, .inl t_text)), (tA_is, .inl (g.2.1 0, 18, .inl t_is))] := hD
      refine lv_aload_n hx hb dX5_isBend_23 rfl (lv_at hl 0 rfl) ?_
      refine va_get (ci := 5) (v := .ref tA_is) (C := RX5) (T := TX5) (N := 25) hx hb hts inlX5 hown hK.1 hP 0 rfl rfl 5 (by decide) (hts _ kw_94) (fun _ h9 => h9) rfl dX5_isBend_24 ?_
      refine lv_bipush (v := 16) hx hb dX5_isBend_27 (by decide) ?_
      refine lv_aload_n hx hb dX5_isBend_29 rfl (lv_at hl 0 rfl) ?_
      refine va_get (ci := 5) (v := .int t_told_4) (C := RX5) (T := TX5) (N := 25) hx hb hts inlX5 hown hK.1 hP 0 rfl rfl 4 (by decide) (hts _ kw_316) (fun _ h9 => h9) rfl dX5_isBend_30 ?_
      refine x_iastN hx hb hK hP hD hS 2 16 rfl (by omega) (by decide) dX5_isBend_33 (fun t_is_10 H locs hf hP hD hS => ?_)
      have hP : va_P g.1 vwCl [(tA, .inr (5, [.int (nI t_length), .ref tA_text, .int (nI t_at_2), .int (nI t_begin_3), .int t_told_4, .ref tA_is, .ref tA_doings, .ref tA_doing, .int t_items, .ref tA_row, .ref tA_isKept, .int t_when, .int t_most, .int t_mostAt, .int t_hiss, .ref tA_best, .ref tA_heats, .ref tA_orders, .ref tA_has, .int (nI t_tests), .ref tA_salt, .ref tA_crumbs, .long t_traced, .int t_hasSkin, .int 1])), (tA_text, .inl (g.2.1 2, 300, .inl t_text)), (tA_is, .inl (g.2.1 0, 18, .inl t_is_10))] H := hP
      have hD : va_D A [(tA, .inr (5, [.int (nI t_length), .ref tA_text, .int (nI t_at_2), .int (nI t_begin_3), .int t_told_4, .ref tA_is, .ref tA_doings, .ref tA_doing, .int t_items, .ref tA_row, .ref tA_isKept, .int t_when, .int t_most, .int t_mostAt, .int t_hiss, .ref tA_best, .ref tA_heats, .ref tA_orders, .ref tA_has, .int (nI t_tests), .ref tA_salt, .ref tA_crumbs, .long t_traced, .int t_hasSkin, .int 1])), (tA_text, .inl (g.2.1 2, 300, .inl t_text)), (tA_is, .inl (g.2.1 0, 18, .inl t_is_10))] := hD
      have E := x_nm_eq E hf
      refine lv_aload_n hx hb dX5_isBend_34 rfl (lv_at hl 0 rfl) ?_
      refine lv_iconst (v := 0) hx hb dX5_isBend_35 (by decide) ?_
      refine lv_bipush (v := 99) hx hb dX5_isBend_36 (by decide) ?_
      refine x_callVi (w2 := fun u => [(tA, .inr (5, [.int (nI t_length), .ref tA_text, .int (nI u.1), .int (nI u.2.1), .int u.2.2, .ref tA_is, .ref tA_doings, .ref tA_doing, .int t_items, .ref tA_row, .ref tA_isKept, .int t_when, .int t_most, .int t_mostAt, .int t_hiss, .ref tA_best, .ref tA_heats, .ref tA_orders, .ref tA_has, .int (nI t_tests), .ref tA_salt, .ref tA_crumbs, .long t_traced, .int t_hasSkin, .int 1])), (tA_text, .inl (g.2.1 2, 300, .inl t_text)), (tA_is, .inl (g.2.1 0, 18, .inl t_is_10))]) (wr := [(tA_is, .inl (g.2.1 0, 18, .inl t_is_10))]) [0, 1] [2] [1, 2, 0] 0 5 ⟨hx, hb, hml, hown, hts⟩ hK hX hP hD hS hA (m_X5_number l g tA tA_text tA_is tA_doings tA_doing tA_row tA_isKept tA_best tA_heats tA_orders tA_has tA_salt tA_crumbs t_length t_at_2 t_begin_3 t_told_4 t_items t_when t_most t_mostAt t_hiss t_tests t_traced t_hasSkin 1 t_text 0 99 (by first | assumption | omega | exact x_e8 (by assumption) (by assumption)) (by first | assumption | omega | exact x_e8 (by assumption) (by assumption))) (cwV 2 hts (x_gV kw_320 kw_321 kw_322 kw_5 kw_323) rfl rfl rfl vX5_number ⟨Nat.le_of_ble_eq_true rfl, Nat.le_of_ble_eq_true rfl⟩) rfl rfl rfl rfl rfl rfl rfl (by decide) (fun _ => rfl) rfl rfl hl.1 rfl (Nat.le_of_ble_eq_true rfl) dX5_isBend_38 ⟨Nat.zero_le _, Nat.zero_le _⟩ (fun z_14 u H locs hw_15 hP hD hS => ?_)
      obtain ⟨t_at_11, t_begin_12, t_told_13⟩ := u
      obtain ⟨⟨hw_15, b_16⟩, he⟩ := hw_15
      obtain ⟨en_38_0, en_38_1, en_38_2⟩ := he
      have en_38_0 : t_at_11 ≤ 300 := en_38_0
      have en_38_1 : t_begin_12 ≤ t_at_11 := en_38_1
      have en_38_2 : t_at_2 ≤ t_at_11 := en_38_2
      have hP : va_P g.1 vwCl [(tA, .inr (5, [.int (nI t_length), .ref tA_text, .int (nI t_at_11), .int (nI t_begin_12), .int t_told_13, .ref tA_is, .ref tA_doings, .ref tA_doing, .int t_items, .ref tA_row, .ref tA_isKept, .int t_when, .int t_most, .int t_mostAt, .int t_hiss, .ref tA_best, .ref tA_heats, .ref tA_orders, .ref tA_has, .int (nI t_tests), .ref tA_salt, .ref tA_crumbs, .long t_traced, .int t_hasSkin, .int 1])), (tA_text, .inl (g.2.1 2, 300, .inl t_text)), (tA_is, .inl (g.2.1 0, 18, .inl t_is_10))] H := hP
      have hD : va_D A [(tA, .inr (5, [.int (nI t_length), .ref tA_text, .int (nI t_at_11), .int (nI t_begin_12), .int t_told_13, .ref tA_is, .ref tA_doings, .ref tA_doing, .int t_items, .ref tA_row, .ref tA_isKept, .int t_when, .int t_most, .int t_mostAt, .int t_hiss, .ref tA_best, .ref tA_heats, .ref tA_orders, .ref tA_has, .int (nI t_tests), .ref tA_salt, .ref tA_crumbs, .long t_traced, .int t_hasSkin, .int 1])), (tA_text, .inl (g.2.1 2, 300, .inl t_text)), (tA_is, .inl (g.2.1 0, 18, .inl t_is_10))] := hD
      have E := x_nm_eq E hw_15
      refine lv_istore_n (lv' := [(1, .int z_14), (0, .ref tA)]) hx hb dX5_isBend_41 rfl hl (by decide) rfl (fun ls hl => ?_)
      refine lv_aload_n hx hb dX5_isBend_42 rfl (lv_at hl 1 rfl) ?_
      refine va_get (ci := 5) (v := .ref tA_is) (C := RX5) (T := TX5) (N := 25) hx hb hts inlX5 hown hK.1 hP 0 rfl rfl 5 (by decide) (hts _ kw_94) (fun _ h9 => h9) rfl dX5_isBend_43 ?_
      refine lv_bipush (v := 17) hx hb dX5_isBend_46 (by decide) ?_
      refine lv_aload_n hx hb dX5_isBend_48 rfl (lv_at hl 1 rfl) ?_
      refine va_get (ci := 5) (v := .int t_told_13) (C := RX5) (T := TX5) (N := 25) hx hb hts inlX5 hown hK.1 hP 0 rfl rfl 4 (by decide) (hts _ kw_316) (fun _ h9 => h9) rfl dX5_isBend_49 ?_
      refine x_iastN hx hb hK hP hD hS 2 17 rfl (by omega) (by decide) dX5_isBend_52 (fun t_is_18 H locs hf hP hD hS => ?_)
      have hP : va_P g.1 vwCl [(tA, .inr (5, [.int (nI t_length), .ref tA_text, .int (nI t_at_11), .int (nI t_begin_12), .int t_told_13, .ref tA_is, .ref tA_doings, .ref tA_doing, .int t_items, .ref tA_row, .ref tA_isKept, .int t_when, .int t_most, .int t_mostAt, .int t_hiss, .ref tA_best, .ref tA_heats, .ref tA_orders, .ref tA_has, .int (nI t_tests), .ref tA_salt, .ref tA_crumbs, .long t_traced, .int t_hasSkin, .int 1])), (tA_text, .inl (g.2.1 2, 300, .inl t_text)), (tA_is, .inl (g.2.1 0, 18, .inl t_is_18))] H := hP
      have hD : va_D A [(tA, .inr (5, [.int (nI t_length), .ref tA_text, .int (nI t_at_11), .int (nI t_begin_12), .int t_told_13, .ref tA_is, .ref tA_doings, .ref tA_doing, .int t_items, .ref tA_row, .ref tA_isKept, .int t_when, .int t_most, .int t_mostAt, .int t_hiss, .ref tA_best, .ref tA_heats, .ref tA_orders, .ref tA_has, .int (nI t_tests), .ref tA_salt, .ref tA_crumbs, .long t_traced, .int t_hasSkin, .int 1])), (tA_text, .inl (g.2.1 2, 300, .inl t_text)), (tA_is, .inl (g.2.1 0, 18, .inl t_is_18))] := hD
      have E := x_nm_eq E hf
      refine lv_iload_n hx hb dX5_isBend_53 rfl (lv_at hl 0 rfl) ?_
      exact RET z_14 (t_at_11, t_begin_12, t_told_13, 1, t_is_18) H locs _ _ ⟨⟨E.symm.trans hO, (by assumption)⟩, (show t_at_11 ≤ 300 by first | omega | assumption | exact Or.inl rfl | exact Or.inr (by omega)), (show t_begin_12 ≤ 300 by first | omega | assumption | exact Or.inl rfl | exact Or.inr (by omega)), (show t_at ≤ t_at_11 by first | omega | assumption | exact Or.inl rfl | exact Or.inr (by omega))⟩ (x_nar (by assumption)) hP hD hS dX5_isBend_54
    · have E := x_pos E c_9
      refine lv_iconst (v := 0) hx hb dX5_isBend_16 (by decide) ?_
      exact RET 0 (t_at_2, t_begin_3, t_told_4, t_hasBend, t_is) H locs _ _ ⟨⟨E.symm.trans hO, (Or.inl rfl)⟩, (show t_at_2 ≤ 300 by first | omega | assumption | exact Or.inl rfl | exact Or.inr (by omega)), (show t_begin_3 ≤ 300 by first | omega | assumption | exact Or.inl rfl | exact Or.inr (by omega)), (show t_at ≤ t_at_2 by first | omega | assumption | exact Or.inl rfl | exact Or.inr (by omega))⟩ (x_nar (Or.inl rfl)) hP hD hS dX5_isBend_17
abbrev rX5_isDoing : Room := { frames := 2, cells := 0, slots := 0, locals := 48 }
theorem vX5_isDoing : yX5_isDoing.cls = RX5 ∧ yX5_isDoing.cls ≠ "java/lang/invoke/MethodHandle" ∧ yX5_isDoing.cls ≠ "java/lang/invoke/VarHandle" ∧ (parseMethodDescriptor yX5_isDoing.desc).map (fun d => d.parameters.length) = some 1 := by decide +kernel
abbrev wX5_isDoing : List Cond := Cond.code yX5_isDoing cX5_isDoing 3 (some .boolean) :: wsL_law
def F_X5_isDoing (t_length : Nat) (t_text : Nat → Int32) (t_at : Nat) (t_begin : Nat) (t_told : Int32) (t_doings : Nat → Int32) (t_doing : Nat → Int32) (a1 : Int32) : Int32 × Nat × Nat × Int32 × (Nat → Int32) × (Nat → Int32) :=
  if ((t_doings 1).toNatClampNeg) = 12 then (0, t_at, t_begin, t_told, t_doings, t_doing) else x_nm (α := Int32) (if a1 = 3 then 20 else if a1 = 0 then 0 else 1) fun u_3 => x_nm (α := Int32) (if a1 = 0 then 300 else if a1 = 1 then 3 else if a1 = 2 then 9 else 100) fun u_5 => x_nm (F_X5_number t_length t_text t_at u_3 u_5) fun u_12 => if u_12.1 = 0 then (0, u_12.2.1, u_12.2.2.1, u_12.2.2.2, t_doings, t_doing) else x_nm (upd t_doing (36 + (3 * ((t_doings 1).toNatClampNeg))) a1) fun t_doing_14 => x_nm (upd t_doing_14 ((36 + (3 * ((t_doings 1).toNatClampNeg))) + 1) u_12.2.2.2) fun t_doing_15 => x_nm (upd t_doing_15 ((36 + (3 * ((t_doings 1).toNatClampNeg))) + 2) 0) fun t_doing_16 => if a1 = 0 then x_nm (F_X5_number t_length t_text u_12.2.1 1 99) fun u_24 => if u_24.1 = 0 then (0, u_24.2.1, u_24.2.2.1, u_24.2.2.2, t_doings, t_doing_16) else x_nm (upd t_doing_16 ((36 + (3 * ((t_doings 1).toNatClampNeg))) + 2) u_24.2.2.2) fun t_doing_26 => x_nm (upd t_doings 1 (nI (((t_doings 1).toNatClampNeg) + 1))) fun t_doings_27 => (1, u_24.2.1, u_24.2.2.1, u_24.2.2.2, t_doings_27, t_doing_26) else if a1 = 3 then x_nm (F_X5_number t_length t_text u_12.2.1 1 99) fun u_36 => if u_36.1 = 0 then (0, u_36.2.1, u_36.2.2.1, u_36.2.2.2, t_doings, t_doing_16) else x_nm (upd t_doing_16 ((36 + (3 * ((t_doings 1).toNatClampNeg))) + 2) u_36.2.2.2) fun t_doing_38 => x_nm (upd t_doings 1 (nI (((t_doings 1).toNatClampNeg) + 1))) fun t_doings_39 => (1, u_36.2.1, u_36.2.2.1, u_36.2.2.2, t_doings_39, t_doing_38) else x_nm (upd t_doings 1 (nI (((t_doings 1).toNatClampNeg) + 1))) fun t_doings_29 => (1, u_12.2.1, u_12.2.2.1, u_12.2.2.2, t_doings_29, t_doing_16)
set_option maxHeartbeats 4000000 in
set_option maxRecDepth 100000 in
theorem m_X5_isDoing (l : Launch) (g : x_G) (tA tA_text tA_doings tA_doing tA_is tA_row tA_isKept tA_best tA_heats tA_orders tA_has tA_salt tA_crumbs : Nat) (t_length : Nat) (t_at : Nat) (t_begin : Nat) (t_told : Int32) (t_items : Int32) (t_when : Int32) (t_most : Int32) (t_mostAt : Int32) (t_hiss : Int32) (t_tests : Nat) (t_traced : Int64) (t_hasSkin : Int32) (t_hasBend : Int32) (t_text : Nat → Int32) (t_doings : Nat → Int32) (t_doing : Nat → Int32) (a1 : Int32) (h_0 : t_length ≤ 300) (h_1 : t_at ≤ 300) (h_2 : t_begin ≤ 300) (h_3 : (t_doings 1).toNatClampNeg ≤ 12) (h_4 : t_doings 1 = nI (t_doings 1).toNatClampNeg) : x_MetI l yX5_isDoing wX5_isDoing rX5_isDoing g [.ref tA, .int a1] [(tA, .inr (5, [.int (nI t_length), .ref tA_text, .int (nI t_at), .int (nI t_begin), .int t_told, .ref tA_is, .ref tA_doings, .ref tA_doing, .int t_items, .ref tA_row, .ref tA_isKept, .int t_when, .int t_most, .int t_mostAt, .int t_hiss, .ref tA_best, .ref tA_heats, .ref tA_orders, .ref tA_has, .int (nI t_tests), .ref tA_salt, .ref tA_crumbs, .long t_traced, .int t_hasSkin, .int t_hasBend])), (tA_text, .inl (g.2.1 2, 300, .inl t_text)), (tA_doings, .inl (g.2.1 0, 2, .inl t_doings)), (tA_doing, .inl (g.2.1 0, 72, .inl t_doing))] (fun (r : Int32) (u : Nat × Nat × Int32 × (Nat → Int32) × (Nat → Int32)) => (((r, u) = F_X5_isDoing t_length t_text t_at t_begin t_told t_doings t_doing a1) ∧ (r = 0 ∨ r = 1)) ∧ (u.1 ≤ 300) ∧ (u.2.1 ≤ 300) ∧ (t_at ≤ u.1) ∧ ((u.2.2.2.1 1).toNatClampNeg ≤ 12) ∧ (u.2.2.2.1 1 = nI (u.2.2.2.1 1).toNatClampNeg)) (fun u => [(tA, .inr (5, [.int (nI t_length), .ref tA_text, .int (nI u.1), .int (nI u.2.1), .int u.2.2.1, .ref tA_is, .ref tA_doings, .ref tA_doing, .int t_items, .ref tA_row, .ref tA_isKept, .int t_when, .int t_most, .int t_mostAt, .int t_hiss, .ref tA_best, .ref tA_heats, .ref tA_orders, .ref tA_has, .int (nI t_tests), .ref tA_salt, .ref tA_crumbs, .long t_traced, .int t_hasSkin, .int t_hasBend])), (tA_text, .inl (g.2.1 2, 300, .inl t_text)), (tA_doings, .inl (g.2.1 0, 2, .inl u.2.2.2.1)), (tA_doing, .inl (g.2.1 0, 72, .inl u.2.2.2.2))]) := by
  refine x_startI (cc := cX5_isDoing) (maxL := 3) (by decide) rfl (Nat.le_of_ble_eq_true rfl) ?_
  intro p e s m args below meth c Q A ls H locs hx hb hml hown hts hK hX hP hD hS hA hl RET
  have hown : s.vm.findClass RX5 = some m.cls := hown
  have hl : lv_has ls 3 [(0, .ref tA), (1, .int a1)] := hl
  obtain ⟨o_0, hO⟩ : ∃ z, z = F_X5_isDoing t_length t_text t_at t_begin t_told t_doings t_doing a1 := ⟨_, rfl⟩
  have E := hO
  rw [F_X5_isDoing.eq_1] at E
  refine lv_bipush (v := 36) hx hb dX5_isDoing_0 (by decide) ?_
  refine lv_iconst (v := 3) hx hb dX5_isDoing_2 (by decide) ?_
  refine lv_aload_n hx hb dX5_isDoing_3 rfl (lv_at hl 0 rfl) ?_
  refine va_get (ci := 5) (v := .ref tA_doings) (C := RX5) (T := TX5) (N := 25) hx hb hts inlX5 hown hK.1 hP 0 rfl rfl 6 (by decide) (hts _ kw_95) (fun _ h9 => h9) rfl dX5_isDoing_4 ?_
  refine lv_iconst (v := 1) hx hb dX5_isDoing_7 (by decide) ?_
  refine x_ialdN hx hb hK hP 2 1 rfl (by omega) (by decide) dX5_isDoing_8 ?_
  refine x_eqi (h_4) ?_
  refine lv_imul hx hb dX5_isDoing_9 ?_
  refine x_eqi (pk_mul 3 ((t_doings 1).toNatClampNeg)) ?_
  refine lv_iadd hx hb dX5_isDoing_10 ?_
  refine x_eqi (nI_add 36 (3 * ((t_doings 1).toNatClampNeg))) ?_
  refine lv_istore_n (lv' := [(2, .int (nI (36 + (3 * ((t_doings 1).toNatClampNeg))))), (0, .ref tA), (1, .int a1)]) hx hb dX5_isDoing_11 rfl hl (by decide) rfl (fun ls hl => ?_)
  refine lv_aload_n hx hb dX5_isDoing_12 rfl (lv_at hl 1 rfl) ?_
  refine va_get (ci := 5) (v := .ref tA_doings) (C := RX5) (T := TX5) (N := 25) hx hb hts inlX5 hown hK.1 hP 0 rfl rfl 6 (by decide) (hts _ kw_95) (fun _ h9 => h9) rfl dX5_isDoing_13 ?_
  refine lv_iconst (v := 1) hx hb dX5_isDoing_16 (by decide) ?_
  refine x_ialdN hx hb hK hP 2 1 rfl (by omega) (by decide) dX5_isDoing_17 ?_
  refine x_eqi (h_4) ?_
  refine lv_bipush (v := 12) hx hb dX5_isDoing_18 (by decide) ?_
  refine x_icmp_eq (a := ((t_doings 1).toNatClampNeg)) (b := 12) (tgt := 80) hx hb (by omega) (by omega) dX5_isDoing_20 (by decide) (fun c_1 => ?_) (fun c_1 => ?_)
  · have E := x_pos E c_1
    refine lv_iconst (v := 0) hx hb dX5_isDoing_80 (by decide) ?_
    exact RET 0 (t_at, t_begin, t_told, t_doings, t_doing) H locs _ _ ⟨⟨E.symm.trans hO, (Or.inl rfl)⟩, (show t_at ≤ 300 by first | omega | assumption | exact Or.inl rfl | exact Or.inr (by omega)), (show t_begin ≤ 300 by first | omega | assumption | exact Or.inl rfl | exact Or.inr (by omega)), (show t_at ≤ t_at by first | omega | assumption | exact Or.inl rfl | exact Or.inr (by omega)), (show (t_doings 1).toNatClampNeg ≤ 12 from by first | assumption | (rw [hf, pk_us, nI_clamp (by omega)]; omega)), (show t_doings 1 = nI (t_doings 1).toNatClampNeg from by first | assumption | (rw [hf, pk_us, nI_clamp (by omega)]))⟩ (x_nar (Or.inl rfl)) hP hD hS dX5_isDoing_81
  · have E := x_neg E c_1
    refine lv_aload_n hx hb dX5_isDoing_23 rfl (lv_at hl 1 rfl) ?_
    refine lv_iload_n hx hb dX5_isDoing_24 rfl (lv_at hl 2 rfl) ?_
    refine lv_iconst (v := 3) hx hb dX5_isDoing_25 (by decide) ?_
    obtain ⟨o_3, E_3, E⟩ := x_nm_ex E
    have J_3 : ∀ (v_2 : Int32), o_3 = v_2 → ∀ (H : Heap) (locs : List Loc) (ls : Array Slot), va_P g.1 vwCl [(tA, .inr (5, [.int (nI t_length), .ref tA_text, .int (nI t_at), .int (nI t_begin), .int t_told, .ref tA_is, .ref tA_doings, .ref tA_doing, .int t_items, .ref tA_row, .ref tA_isKept, .int t_when, .int t_most, .int t_mostAt, .int t_hiss, .ref tA_best, .ref tA_heats, .ref tA_orders, .ref tA_has, .int (nI t_tests), .ref tA_salt, .ref tA_crumbs, .long t_traced, .int t_hasSkin, .int t_hasBend])), (tA_text, .inl (g.2.1 2, 300, .inl t_text)), (tA_doings, .inl (g.2.1 0, 2, .inl t_doings)), (tA_doing, .inl (g.2.1 0, 72, .inl t_doing))] H → va_D A [(tA, .inr (5, [.int (nI t_length), .ref tA_text, .int (nI t_at), .int (nI t_begin), .int t_told, .ref tA_is, .ref tA_doings, .ref tA_doing, .int t_items, .ref tA_row, .ref tA_isKept, .int t_when, .int t_most, .int t_mostAt, .int t_hiss, .ref tA_best, .ref tA_heats, .ref tA_orders, .ref tA_has, .int (nI t_tests), .ref tA_salt, .ref tA_crumbs, .long t_traced, .int t_hasSkin, .int t_hasBend])), (tA_text, .inl (g.2.1 2, 300, .inl t_text)), (tA_doings, .inl (g.2.1 0, 2, .inl t_doings)), (tA_doing, .inl (g.2.1 0, 72, .inl t_doing))] → va_S A s.heap H locs → lv_has ls 3 [(0, .ref tA), (1, .int a1), (2, .int (nI (36 + (3 * ((t_doings 1).toNatClampNeg)))))] → W p l e rX5_isDoing s m args below meth c H locs 0 0 Q (F0 m 43 ls [.int v_2, .ref tA]) := by
      intro v_2 hE  H locs ls hP hD hS hl
      try rw [hE] at E
      refine lv_iload_n hx hb dX5_isDoing_43 rfl (lv_at hl 1 rfl) ?_
      obtain ⟨o_5, E_5, E⟩ := x_nm_ex E
      have J_5 : ∀ (v_4 : Int32), o_5 = v_4 → ∀ (H : Heap) (locs : List Loc) (ls : Array Slot), va_P g.1 vwCl [(tA, .inr (5, [.int (nI t_length), .ref tA_text, .int (nI t_at), .int (nI t_begin), .int t_told, .ref tA_is, .ref tA_doings, .ref tA_doing, .int t_items, .ref tA_row, .ref tA_isKept, .int t_when, .int t_most, .int t_mostAt, .int t_hiss, .ref tA_best, .ref tA_heats, .ref tA_orders, .ref tA_has, .int (nI t_tests), .ref tA_salt, .ref tA_crumbs, .long t_traced, .int t_hasSkin, .int t_hasBend])), (tA_text, .inl (g.2.1 2, 300, .inl t_text)), (tA_doings, .inl (g.2.1 0, 2, .inl t_doings)), (tA_doing, .inl (g.2.1 0, 72, .inl t_doing))] H → va_D A [(tA, .inr (5, [.int (nI t_length), .ref tA_text, .int (nI t_at), .int (nI t_begin), .int t_told, .ref tA_is, .ref tA_doings, .ref tA_doing, .int t_items, .ref tA_row, .ref tA_isKept, .int t_when, .int t_most, .int t_mostAt, .int t_hiss, .ref tA_best, .ref tA_heats, .ref tA_orders, .ref tA_has, .int (nI t_tests), .ref tA_salt, .ref tA_crumbs, .long t_traced, .int t_hasSkin, .int t_hasBend])), (tA_text, .inl (g.2.1 2, 300, .inl t_text)), (tA_doings, .inl (g.2.1 0, 2, .inl t_doings)), (tA_doing, .inl (g.2.1 0, 72, .inl t_doing))] → va_S A s.heap H locs → lv_has ls 3 [(0, .ref tA), (1, .int a1), (2, .int (nI (36 + (3 * ((t_doings 1).toNatClampNeg)))))] → W p l e rX5_isDoing s m args below meth c H locs 0 0 Q (F0 m 74 ls [.int v_4, .int v_2, .ref tA]) := by
        intro v_4 hE  H locs ls hP hD hS hl
        try rw [hE] at E
        refine x_callVi (w2 := fun u => [(tA, .inr (5, [.int (nI t_length), .ref tA_text, .int (nI u.1), .int (nI u.2.1), .int u.2.2, .ref tA_is, .ref tA_doings, .ref tA_doing, .int t_items, .ref tA_row, .ref tA_isKept, .int t_when, .int t_most, .int t_mostAt, .int t_hiss, .ref tA_best, .ref tA_heats, .ref tA_orders, .ref tA_has, .int (nI t_tests), .ref tA_salt, .ref tA_crumbs, .long t_traced, .int t_hasSkin, .int t_hasBend])), (tA_text, .inl (g.2.1 2, 300, .inl t_text)), (tA_doings, .inl (g.2.1 0, 2, .inl t_doings)), (tA_doing, .inl (g.2.1 0, 72, .inl t_doing))]) (wr := [(tA_doings, .inl (g.2.1 0, 2, .inl t_doings)), (tA_doing, .inl (g.2.1 0, 72, .inl t_doing))]) [0, 1] [2, 3] [2, 3, 0, 1] 0 5 ⟨hx, hb, hml, hown, hts⟩ hK hX hP hD hS hA (m_X5_number l g tA tA_text tA_is tA_doings tA_doing tA_row tA_isKept tA_best tA_heats tA_orders tA_has tA_salt tA_crumbs t_length t_at t_begin t_told t_items t_when t_most t_mostAt t_hiss t_tests t_traced t_hasSkin t_hasBend t_text v_2 v_4 (by first | assumption | omega | exact x_e8 (by assumption) (by assumption)) (by first | assumption | omega | exact x_e8 (by assumption) (by assumption))) (cwV 2 hts (x_gV kw_320 kw_321 kw_322 kw_5 kw_323) rfl rfl rfl vX5_number ⟨Nat.le_of_ble_eq_true rfl, Nat.le_of_ble_eq_true rfl⟩) rfl rfl rfl rfl rfl rfl rfl (by decide) (fun _ => rfl) rfl rfl hl.1 rfl (Nat.le_of_ble_eq_true rfl) dX5_isDoing_74 ⟨Nat.zero_le _, Nat.zero_le _⟩ (fun z_9 u H locs hw_10 hP hD hS => ?_)
        obtain ⟨t_at_6, t_begin_7, t_told_8⟩ := u
        obtain ⟨⟨hw_10, b_11⟩, he⟩ := hw_10
        obtain ⟨en_74_0, en_74_1, en_74_2⟩ := he
        have en_74_0 : t_at_6 ≤ 300 := en_74_0
        have en_74_1 : t_begin_7 ≤ t_at_6 := en_74_1
        have en_74_2 : t_at ≤ t_at_6 := en_74_2
        have hP : va_P g.1 vwCl [(tA, .inr (5, [.int (nI t_length), .ref tA_text, .int (nI t_at_6), .int (nI t_begin_7), .int t_told_8, .ref tA_is, .ref tA_doings, .ref tA_doing, .int t_items, .ref tA_row, .ref tA_isKept, .int t_when, .int t_most, .int t_mostAt, .int t_hiss, .ref tA_best, .ref tA_heats, .ref tA_orders, .ref tA_has, .int (nI t_tests), .ref tA_salt, .ref tA_crumbs, .long t_traced, .int t_hasSkin, .int t_hasBend])), (tA_text, .inl (g.2.1 2, 300, .inl t_text)), (tA_doings, .inl (g.2.1 0, 2, .inl t_doings)), (tA_doing, .inl (g.2.1 0, 72, .inl t_doing))] H := hP
        have hD : va_D A [(tA, .inr (5, [.int (nI t_length), .ref tA_text, .int (nI t_at_6), .int (nI t_begin_7), .int t_told_8, .ref tA_is, .ref tA_doings, .ref tA_doing, .int t_items, .ref tA_row, .ref tA_isKept, .int t_when, .int t_most, .int t_mostAt, .int t_hiss, .ref tA_best, .ref tA_heats, .ref tA_orders, .ref tA_has, .int (nI t_tests), .ref tA_salt, .ref tA_crumbs, .long t_traced, .int t_hasSkin, .int t_hasBend])), (tA_text, .inl (g.2.1 2, 300, .inl t_text)), (tA_doings, .inl (g.2.1 0, 2, .inl t_doings)), (tA_doing, .inl (g.2.1 0, 72, .inl t_doing))] := hD
        have E := x_nm_eq E hw_10
        refine x_if_neI (tgt := 82) hx hb dX5_isDoing_77 (by decide) (fun c_13 => ?_) (fun c_13 => ?_)
        · have E := x_neg E c_13
          refine lv_aload_n hx hb dX5_isDoing_82 rfl (lv_at hl 0 rfl) ?_
          refine va_get (ci := 5) (v := .ref tA_doing) (C := RX5) (T := TX5) (N := 25) hx hb hts inlX5 hown hK.1 hP 0 rfl rfl 7 (by decide) (hts _ kw_96) (fun _ h9 => h9) rfl dX5_isDoing_83 ?_
          refine lv_iload_n hx hb dX5_isDoing_86 rfl (lv_at hl 2 rfl) ?_
          refine lv_iload_n hx hb dX5_isDoing_87 rfl (lv_at hl 1 rfl) ?_
          refine x_iastN hx hb hK hP hD hS 3 (36 + (3 * ((t_doings 1).toNatClampNeg))) rfl (by omega) (by decide) dX5_isDoing_88 (fun t_doing_14 H locs hf hP hD hS => ?_)
          have hP : va_P g.1 vwCl [(tA, .inr (5, [.int (nI t_length), .ref tA_text, .int (nI t_at_6), .int (nI t_begin_7), .int t_told_8, .ref tA_is, .ref tA_doings, .ref tA_doing, .int t_items, .ref tA_row, .ref tA_isKept, .int t_when, .int t_most, .int t_mostAt, .int t_hiss, .ref tA_best, .ref tA_heats, .ref tA_orders, .ref tA_has, .int (nI t_tests), .ref tA_salt, .ref tA_crumbs, .long t_traced, .int t_hasSkin, .int t_hasBend])), (tA_text, .inl (g.2.1 2, 300, .inl t_text)), (tA_doings, .inl (g.2.1 0, 2, .inl t_doings)), (tA_doing, .inl (g.2.1 0, 72, .inl t_doing_14))] H := hP
          have hD : va_D A [(tA, .inr (5, [.int (nI t_length), .ref tA_text, .int (nI t_at_6), .int (nI t_begin_7), .int t_told_8, .ref tA_is, .ref tA_doings, .ref tA_doing, .int t_items, .ref tA_row, .ref tA_isKept, .int t_when, .int t_most, .int t_mostAt, .int t_hiss, .ref tA_best, .ref tA_heats, .ref tA_orders, .ref tA_has, .int (nI t_tests), .ref tA_salt, .ref tA_crumbs, .long t_traced, .int t_hasSkin, .int t_hasBend])), (tA_text, .inl (g.2.1 2, 300, .inl t_text)), (tA_doings, .inl (g.2.1 0, 2, .inl t_doings)), (tA_doing, .inl (g.2.1 0, 72, .inl t_doing_14))] := hD
          have E := x_nm_eq E hf
          refine lv_aload_n hx hb dX5_isDoing_89 rfl (lv_at hl 0 rfl) ?_
          refine va_get (ci := 5) (v := .ref tA_doing) (C := RX5) (T := TX5) (N := 25) hx hb hts inlX5 hown hK.1 hP 0 rfl rfl 7 (by decide) (hts _ kw_96) (fun _ h9 => h9) rfl dX5_isDoing_90 ?_
          refine lv_iload_n hx hb dX5_isDoing_93 rfl (lv_at hl 2 rfl) ?_
          refine lv_iconst (v := 1) hx hb dX5_isDoing_94 (by decide) ?_
          refine lv_iadd hx hb dX5_isDoing_95 ?_
          refine x_eqi (nI_add (36 + (3 * ((t_doings 1).toNatClampNeg))) 1) ?_
          refine lv_aload_n hx hb dX5_isDoing_96 rfl (lv_at hl 0 rfl) ?_
          refine va_get (ci := 5) (v := .int t_told_8) (C := RX5) (T := TX5) (N := 25) hx hb hts inlX5 hown hK.1 hP 0 rfl rfl 4 (by decide) (hts _ kw_316) (fun _ h9 => h9) rfl dX5_isDoing_97 ?_
          refine x_iastN hx hb hK hP hD hS 3 ((36 + (3 * ((t_doings 1).toNatClampNeg))) + 1) rfl (by omega) (by decide) dX5_isDoing_100 (fun t_doing_15 H locs hf hP hD hS => ?_)
          have hP : va_P g.1 vwCl [(tA, .inr (5, [.int (nI t_length), .ref tA_text, .int (nI t_at_6), .int (nI t_begin_7), .int t_told_8, .ref tA_is, .ref tA_doings, .ref tA_doing, .int t_items, .ref tA_row, .ref tA_isKept, .int t_when, .int t_most, .int t_mostAt, .int t_hiss, .ref tA_best, .ref tA_heats, .ref tA_orders, .ref tA_has, .int (nI t_tests), .ref tA_salt, .ref tA_crumbs, .long t_traced, .int t_hasSkin, .int t_hasBend])), (tA_text, .inl (g.2.1 2, 300, .inl t_text)), (tA_doings, .inl (g.2.1 0, 2, .inl t_doings)), (tA_doing, .inl (g.2.1 0, 72, .inl t_doing_15))] H := hP
          have hD : va_D A [(tA, .inr (5, [.int (nI t_length), .ref tA_text, .int (nI t_at_6), .int (nI t_begin_7), .int t_told_8, .ref tA_is, .ref tA_doings, .ref tA_doing, .int t_items, .ref tA_row, .ref tA_isKept, .int t_when, .int t_most, .int t_mostAt, .int t_hiss, .ref tA_best, .ref tA_heats, .ref tA_orders, .ref tA_has, .int (nI t_tests), .ref tA_salt, .ref tA_crumbs, .long t_traced, .int t_hasSkin, .int t_hasBend])), (tA_text, .inl (g.2.1 2, 300, .inl t_text)), (tA_doings, .inl (g.2.1 0, 2, .inl t_doings)), (tA_doing, .inl (g.2.1 0, 72, .inl t_doing_15))] := hD
          have E := x_nm_eq E hf
          refine lv_aload_n hx hb dX5_isDoing_101 rfl (lv_at hl 0 rfl) ?_
          refine va_get (ci := 5) (v := .ref tA_doing) (C := RX5) (T := TX5) (N := 25) hx hb hts inlX5 hown hK.1 hP 0 rfl rfl 7 (by decide) (hts _ kw_96) (fun _ h9 => h9) rfl dX5_isDoing_102 ?_
          refine lv_iload_n hx hb dX5_isDoing_105 rfl (lv_at hl 2 rfl) ?_
          refine lv_iconst (v := 2) hx hb dX5_isDoing_106 (by decide) ?_
          refine lv_iadd hx hb dX5_isDoing_107 ?_
          refine x_eqi (nI_add (36 + (3 * ((t_doings 1).toNatClampNeg))) 2) ?_
          refine lv_iconst (v := 0) hx hb dX5_isDoing_108 (by decide) ?_
          refine x_iastN hx hb hK hP hD hS 3 ((36 + (3 * ((t_doings 1).toNatClampNeg))) + 2) rfl (by omega) (by decide) dX5_isDoing_109 (fun t_doing_16 H locs hf hP hD hS => ?_)
          have hP : va_P g.1 vwCl [(tA, .inr (5, [.int (nI t_length), .ref tA_text, .int (nI t_at_6), .int (nI t_begin_7), .int t_told_8, .ref tA_is, .ref tA_doings, .ref tA_doing, .int t_items, .ref tA_row, .ref tA_isKept, .int t_when, .int t_most, .int t_mostAt, .int t_hiss, .ref tA_best, .ref tA_heats, .ref tA_orders, .ref tA_has, .int (nI t_tests), .ref tA_salt, .ref tA_crumbs, .long t_traced, .int t_hasSkin, .int t_hasBend])), (tA_text, .inl (g.2.1 2, 300, .inl t_text)), (tA_doings, .inl (g.2.1 0, 2, .inl t_doings)), (tA_doing, .inl (g.2.1 0, 72, .inl t_doing_16))] H := hP
          have hD : va_D A [(tA, .inr (5, [.int (nI t_length), .ref tA_text, .int (nI t_at_6), .int (nI t_begin_7), .int t_told_8, .ref tA_is, .ref tA_doings, .ref tA_doing, .int t_items, .ref tA_row, .ref tA_isKept, .int t_when, .int t_most, .int t_mostAt, .int t_hiss, .ref tA_best, .ref tA_heats, .ref tA_orders, .ref tA_has, .int (nI t_tests), .ref tA_salt, .ref tA_crumbs, .long t_traced, .int t_hasSkin, .int t_hasBend])), (tA_text, .inl (g.2.1 2, 300, .inl t_text)), (tA_doings, .inl (g.2.1 0, 2, .inl t_doings)), (tA_doing, .inl (g.2.1 0, 72, .inl t_doing_16))] := hD
          have E := x_nm_eq E hf
          refine lv_iload_n hx hb dX5_isDoing_110 rfl (lv_at hl 1 rfl) ?_
          refine lv_if_eq (tgt := 119) hx hb dX5_isDoing_111 (by decide) (fun c_17 => ?_) (fun c_17 => ?_)
          · have E := x_pos E c_17
            refine lv_aload_n hx hb dX5_isDoing_119 rfl (lv_at hl 0 rfl) ?_
            refine lv_iconst (v := 1) hx hb dX5_isDoing_120 (by decide) ?_
            refine lv_bipush (v := 99) hx hb dX5_isDoing_121 (by decide) ?_
            refine x_callVi (w2 := fun u => [(tA, .inr (5, [.int (nI t_length), .ref tA_text, .int (nI u.1), .int (nI u.2.1), .int u.2.2, .ref tA_is, .ref tA_doings, .ref tA_doing, .int t_items, .ref tA_row, .ref tA_isKept, .int t_when, .int t_most, .int t_mostAt, .int t_hiss, .ref tA_best, .ref tA_heats, .ref tA_orders, .ref tA_has, .int (nI t_tests), .ref tA_salt, .ref tA_crumbs, .long t_traced, .int t_hasSkin, .int t_hasBend])), (tA_text, .inl (g.2.1 2, 300, .inl t_text)), (tA_doings, .inl (g.2.1 0, 2, .inl t_doings)), (tA_doing, .inl (g.2.1 0, 72, .inl t_doing_16))]) (wr := [(tA_doings, .inl (g.2.1 0, 2, .inl t_doings)), (tA_doing, .inl (g.2.1 0, 72, .inl t_doing_16))]) [0, 1] [2, 3] [2, 3, 0, 1] 0 5 ⟨hx, hb, hml, hown, hts⟩ hK hX hP hD hS hA (m_X5_number l g tA tA_text tA_is tA_doings tA_doing tA_row tA_isKept tA_best tA_heats tA_orders tA_has tA_salt tA_crumbs t_length t_at_6 t_begin_7 t_told_8 t_items t_when t_most t_mostAt t_hiss t_tests t_traced t_hasSkin t_hasBend t_text 1 99 (by first | assumption | omega | exact x_e8 (by assumption) (by assumption)) (by first | assumption | omega | exact x_e8 (by assumption) (by assumption))) (cwV 2 hts (x_gV kw_320 kw_321 kw_322 kw_5 kw_323) rfl rfl rfl vX5_number ⟨Nat.le_of_ble_eq_true rfl, Nat.le_of_ble_eq_true rfl⟩) rfl rfl rfl rfl rfl rfl rfl (by decide) (fun _ => rfl) rfl rfl hl.1 rfl (Nat.le_of_ble_eq_true rfl) dX5_isDoing_123 ⟨Nat.zero_le _, Nat.zero_le _⟩ (fun z_21 u H locs hw_22 hP hD hS => ?_)
            obtain ⟨t_at_18, t_begin_19, t_told_20⟩ := u
            obtain ⟨⟨hw_22, b_23⟩, he⟩ := hw_22
            obtain ⟨en_123_0, en_123_1, en_123_2⟩ := he
            have en_123_0 : t_at_18 ≤ 300 := en_123_0
            have en_123_1 : t_begin_19 ≤ t_at_18 := en_123_1
            have en_123_2 : t_at_6 ≤ t_at_18 := en_123_2
            have hP : va_P g.1 vwCl [(tA, .inr (5, [.int (nI t_length), .ref tA_text, .int (nI t_at_18), .int (nI t_begin_19), .int t_told_20, .ref tA_is, .ref tA_doings, .ref tA_doing, .int t_items, .ref tA_row, .ref tA_isKept, .int t_when, .int t_most, .int t_mostAt, .int t_hiss, .ref tA_best, .ref tA_heats, .ref tA_orders, .ref tA_has, .int (nI t_tests), .ref tA_salt, .ref tA_crumbs, .long t_traced, .int t_hasSkin, .int t_hasBend])), (tA_text, .inl (g.2.1 2, 300, .inl t_text)), (tA_doings, .inl (g.2.1 0, 2, .inl t_doings)), (tA_doing, .inl (g.2.1 0, 72, .inl t_doing_16))] H := hP
            have hD : va_D A [(tA, .inr (5, [.int (nI t_length), .ref tA_text, .int (nI t_at_18), .int (nI t_begin_19), .int t_told_20, .ref tA_is, .ref tA_doings, .ref tA_doing, .int t_items, .ref tA_row, .ref tA_isKept, .int t_when, .int t_most, .int t_mostAt, .int t_hiss, .ref tA_best, .ref tA_heats, .ref tA_orders, .ref tA_has, .int (nI t_tests), .ref tA_salt, .ref tA_crumbs, .long t_traced, .int t_hasSkin, .int t_hasBend])), (tA_text, .inl (g.2.1 2, 300, .inl t_text)), (tA_doings, .inl (g.2.1 0, 2, .inl t_doings)), (tA_doing, .inl (g.2.1 0, 72, .inl t_doing_16))] := hD
            have E := x_nm_eq E hw_22
            refine x_if_neI (tgt := 131) hx hb dX5_isDoing_126 (by decide) (fun c_25 => ?_) (fun c_25 => ?_)
            · have E := x_neg E c_25
              refine lv_aload_n hx hb dX5_isDoing_131 rfl (lv_at hl 0 rfl) ?_
              refine va_get (ci := 5) (v := .ref tA_doing) (C := RX5) (T := TX5) (N := 25) hx hb hts inlX5 hown hK.1 hP 0 rfl rfl 7 (by decide) (hts _ kw_96) (fun _ h9 => h9) rfl dX5_isDoing_132 ?_
              refine lv_iload_n hx hb dX5_isDoing_135 rfl (lv_at hl 2 rfl) ?_
              refine lv_iconst (v := 2) hx hb dX5_isDoing_136 (by decide) ?_
              refine lv_iadd hx hb dX5_isDoing_137 ?_
              refine x_eqi (nI_add (36 + (3 * ((t_doings 1).toNatClampNeg))) 2) ?_
              refine lv_aload_n hx hb dX5_isDoing_138 rfl (lv_at hl 0 rfl) ?_
              refine va_get (ci := 5) (v := .int t_told_20) (C := RX5) (T := TX5) (N := 25) hx hb hts inlX5 hown hK.1 hP 0 rfl rfl 4 (by decide) (hts _ kw_316) (fun _ h9 => h9) rfl dX5_isDoing_139 ?_
              refine x_iastN hx hb hK hP hD hS 3 ((36 + (3 * ((t_doings 1).toNatClampNeg))) + 2) rfl (by omega) (by decide) dX5_isDoing_142 (fun t_doing_26 H locs hf hP hD hS => ?_)
              have hP : va_P g.1 vwCl [(tA, .inr (5, [.int (nI t_length), .ref tA_text, .int (nI t_at_18), .int (nI t_begin_19), .int t_told_20, .ref tA_is, .ref tA_doings, .ref tA_doing, .int t_items, .ref tA_row, .ref tA_isKept, .int t_when, .int t_most, .int t_mostAt, .int t_hiss, .ref tA_best, .ref tA_heats, .ref tA_orders, .ref tA_has, .int (nI t_tests), .ref tA_salt, .ref tA_crumbs, .long t_traced, .int t_hasSkin, .int t_hasBend])), (tA_text, .inl (g.2.1 2, 300, .inl t_text)), (tA_doings, .inl (g.2.1 0, 2, .inl t_doings)), (tA_doing, .inl (g.2.1 0, 72, .inl t_doing_26))] H := hP
              have hD : va_D A [(tA, .inr (5, [.int (nI t_length), .ref tA_text, .int (nI t_at_18), .int (nI t_begin_19), .int t_told_20, .ref tA_is, .ref tA_doings, .ref tA_doing, .int t_items, .ref tA_row, .ref tA_isKept, .int t_when, .int t_most, .int t_mostAt, .int t_hiss, .ref tA_best, .ref tA_heats, .ref tA_orders, .ref tA_has, .int (nI t_tests), .ref tA_salt, .ref tA_crumbs, .long t_traced, .int t_hasSkin, .int t_hasBend])), (tA_text, .inl (g.2.1 2, 300, .inl t_text)), (tA_doings, .inl (g.2.1 0, 2, .inl t_doings)), (tA_doing, .inl (g.2.1 0, 72, .inl t_doing_26))] := hD
              have E := x_nm_eq E hf
              refine lv_aload_n hx hb dX5_isDoing_143 rfl (lv_at hl 0 rfl) ?_
              refine va_get (ci := 5) (v := .ref tA_doings) (C := RX5) (T := TX5) (N := 25) hx hb hts inlX5 hown hK.1 hP 0 rfl rfl 6 (by decide) (hts _ kw_95) (fun _ h9 => h9) rfl dX5_isDoing_144 ?_
              refine lv_iconst (v := 1) hx hb dX5_isDoing_147 (by decide) ?_
              refine lv_dup2_11 hx hb dX5_isDoing_148 rfl rfl ?_
              refine x_ialdN hx hb hK hP 2 1 rfl (by omega) (by decide) dX5_isDoing_149 ?_
              refine x_eqi (h_4) ?_
              refine lv_iconst (v := 1) hx hb dX5_isDoing_150 (by decide) ?_
              refine lv_iadd hx hb dX5_isDoing_151 ?_
              refine x_eqi (nI_add ((t_doings 1).toNatClampNeg) 1) ?_
              refine x_iastN hx hb hK hP hD hS 2 1 rfl (by omega) (by decide) dX5_isDoing_152 (fun t_doings_27 H locs hf hP hD hS => ?_)
              have hP : va_P g.1 vwCl [(tA, .inr (5, [.int (nI t_length), .ref tA_text, .int (nI t_at_18), .int (nI t_begin_19), .int t_told_20, .ref tA_is, .ref tA_doings, .ref tA_doing, .int t_items, .ref tA_row, .ref tA_isKept, .int t_when, .int t_most, .int t_mostAt, .int t_hiss, .ref tA_best, .ref tA_heats, .ref tA_orders, .ref tA_has, .int (nI t_tests), .ref tA_salt, .ref tA_crumbs, .long t_traced, .int t_hasSkin, .int t_hasBend])), (tA_text, .inl (g.2.1 2, 300, .inl t_text)), (tA_doings, .inl (g.2.1 0, 2, .inl t_doings_27)), (tA_doing, .inl (g.2.1 0, 72, .inl t_doing_26))] H := hP
              have hD : va_D A [(tA, .inr (5, [.int (nI t_length), .ref tA_text, .int (nI t_at_18), .int (nI t_begin_19), .int t_told_20, .ref tA_is, .ref tA_doings, .ref tA_doing, .int t_items, .ref tA_row, .ref tA_isKept, .int t_when, .int t_most, .int t_mostAt, .int t_hiss, .ref tA_best, .ref tA_heats, .ref tA_orders, .ref tA_has, .int (nI t_tests), .ref tA_salt, .ref tA_crumbs, .long t_traced, .int t_hasSkin, .int t_hasBend])), (tA_text, .inl (g.2.1 2, 300, .inl t_text)), (tA_doings, .inl (g.2.1 0, 2, .inl t_doings_27)), (tA_doing, .inl (g.2.1 0, 72, .inl t_doing_26))] := hD
              have E := x_nm_eq E hf
              refine lv_iconst (v := 1) hx hb dX5_isDoing_153 (by decide) ?_
              exact RET 1 (t_at_18, t_begin_19, t_told_20, t_doings_27, t_doing_26) H locs _ _ ⟨⟨E.symm.trans hO, (Or.inr rfl)⟩, (show t_at_18 ≤ 300 by first | omega | assumption | exact Or.inl rfl | exact Or.inr (by omega)), (show t_begin_19 ≤ 300 by first | omega | assumption | exact Or.inl rfl | exact Or.inr (by omega)), (show t_at ≤ t_at_18 by first | omega | assumption | exact Or.inl rfl | exact Or.inr (by omega)), (show (t_doings_27 1).toNatClampNeg ≤ 12 from by first | assumption | (rw [hf, pk_us, nI_clamp (by omega)]; omega)), (show t_doings_27 1 = nI (t_doings_27 1).toNatClampNeg from by first | assumption | (rw [hf, pk_us, nI_clamp (by omega)]))⟩ (x_nar (Or.inr rfl)) hP hD hS dX5_isDoing_154
            · have E := x_pos E c_25
              refine lv_iconst (v := 0) hx hb dX5_isDoing_129 (by decide) ?_
              exact RET 0 (t_at_18, t_begin_19, t_told_20, t_doings, t_doing_16) H locs _ _ ⟨⟨E.symm.trans hO, (Or.inl rfl)⟩, (show t_at_18 ≤ 300 by first | omega | assumption | exact Or.inl rfl | exact Or.inr (by omega)), (show t_begin_19 ≤ 300 by first | omega | assumption | exact Or.inl rfl | exact Or.inr (by omega)), (show t_at ≤ t_at_18 by first | omega | assumption | exact Or.inl rfl | exact Or.inr (by omega)), (show (t_doings 1).toNatClampNeg ≤ 12 from by first | assumption | (rw [hf, pk_us, nI_clamp (by omega)]; omega)), (show t_doings 1 = nI (t_doings 1).toNatClampNeg from by first | assumption | (rw [hf, pk_us, nI_clamp (by omega)]))⟩ (x_nar (Or.inl rfl)) hP hD hS dX5_isDoing_130
          · have E := x_neg E c_17
            refine lv_iload_n hx hb dX5_isDoing_114 rfl (lv_at hl 1 rfl) ?_
            refine lv_iconst (v := 3) hx hb dX5_isDoing_115 (by decide) ?_
            refine x_icmp_neI (tgt := 143) hx hb dX5_isDoing_116 (by decide) (fun c_28 => ?_) (fun c_28 => ?_)
            · have E := x_neg E c_28
              refine lv_aload_n hx hb dX5_isDoing_143 rfl (lv_at hl 0 rfl) ?_
              refine va_get (ci := 5) (v := .ref tA_doings) (C := RX5) (T := TX5) (N := 25) hx hb hts inlX5 hown hK.1 hP 0 rfl rfl 6 (by decide) (hts _ kw_95) (fun _ h9 => h9) rfl dX5_isDoing_144 ?_
              refine lv_iconst (v := 1) hx hb dX5_isDoing_147 (by decide) ?_
              refine lv_dup2_11 hx hb dX5_isDoing_148 rfl rfl ?_
              refine x_ialdN hx hb hK hP 2 1 rfl (by omega) (by decide) dX5_isDoing_149 ?_
              refine x_eqi (h_4) ?_
              refine lv_iconst (v := 1) hx hb dX5_isDoing_150 (by decide) ?_
              refine lv_iadd hx hb dX5_isDoing_151 ?_
              refine x_eqi (nI_add ((t_doings 1).toNatClampNeg) 1) ?_
              refine x_iastN hx hb hK hP hD hS 2 1 rfl (by omega) (by decide) dX5_isDoing_152 (fun t_doings_29 H locs hf hP hD hS => ?_)
              have hP : va_P g.1 vwCl [(tA, .inr (5, [.int (nI t_length), .ref tA_text, .int (nI t_at_6), .int (nI t_begin_7), .int t_told_8, .ref tA_is, .ref tA_doings, .ref tA_doing, .int t_items, .ref tA_row, .ref tA_isKept, .int t_when, .int t_most, .int t_mostAt, .int t_hiss, .ref tA_best, .ref tA_heats, .ref tA_orders, .ref tA_has, .int (nI t_tests), .ref tA_salt, .ref tA_crumbs, .long t_traced, .int t_hasSkin, .int t_hasBend])), (tA_text, .inl (g.2.1 2, 300, .inl t_text)), (tA_doings, .inl (g.2.1 0, 2, .inl t_doings_29)), (tA_doing, .inl (g.2.1 0, 72, .inl t_doing_16))] H := hP
              have hD : va_D A [(tA, .inr (5, [.int (nI t_length), .ref tA_text, .int (nI t_at_6), .int (nI t_begin_7), .int t_told_8, .ref tA_is, .ref tA_doings, .ref tA_doing, .int t_items, .ref tA_row, .ref tA_isKept, .int t_when, .int t_most, .int t_mostAt, .int t_hiss, .ref tA_best, .ref tA_heats, .ref tA_orders, .ref tA_has, .int (nI t_tests), .ref tA_salt, .ref tA_crumbs, .long t_traced, .int t_hasSkin, .int t_hasBend])), (tA_text, .inl (g.2.1 2, 300, .inl t_text)), (tA_doings, .inl (g.2.1 0, 2, .inl t_doings_29)), (tA_doing, .inl (g.2.1 0, 72, .inl t_doing_16))] := hD
              have E := x_nm_eq E hf
              refine lv_iconst (v := 1) hx hb dX5_isDoing_153 (by decide) ?_
              exact RET 1 (t_at_6, t_begin_7, t_told_8, t_doings_29, t_doing_16) H locs _ _ ⟨⟨E.symm.trans hO, (Or.inr rfl)⟩, (show t_at_6 ≤ 300 by first | omega | assumption | exact Or.inl rfl | exact Or.inr (by omega)), (show t_begin_7 ≤ 300 by first | omega | assumption | exact Or.inl rfl | exact Or.inr (by omega)), (show t_at ≤ t_at_6 by first | omega | assumption | exact Or.inl rfl | exact Or.inr (by omega)), (show (t_doings_29 1).toNatClampNeg ≤ 12 from by first | assumption | (rw [hf, pk_us, nI_clamp (by omega)]; omega)), (show t_doings_29 1 = nI (t_doings_29 1).toNatClampNeg from by first | assumption | (rw [hf, pk_us, nI_clamp (by omega)]))⟩ (x_nar (Or.inr rfl)) hP hD hS dX5_isDoing_154
            · have E := x_pos E c_28
              refine lv_aload_n hx hb dX5_isDoing_119 rfl (lv_at hl 0 rfl) ?_
              refine lv_iconst (v := 1) hx hb dX5_isDoing_120 (by decide) ?_
              refine lv_bipush (v := 99) hx hb dX5_isDoing_121 (by decide) ?_
              refine x_callVi (w2 := fun u => [(tA, .inr (5, [.int (nI t_length), .ref tA_text, .int (nI u.1), .int (nI u.2.1), .int u.2.2, .ref tA_is, .ref tA_doings, .ref tA_doing, .int t_items, .ref tA_row, .ref tA_isKept, .int t_when, .int t_most, .int t_mostAt, .int t_hiss, .ref tA_best, .ref tA_heats, .ref tA_orders, .ref tA_has, .int (nI t_tests), .ref tA_salt, .ref tA_crumbs, .long t_traced, .int t_hasSkin, .int t_hasBend])), (tA_text, .inl (g.2.1 2, 300, .inl t_text)), (tA_doings, .inl (g.2.1 0, 2, .inl t_doings)), (tA_doing, .inl (g.2.1 0, 72, .inl t_doing_16))]) (wr := [(tA_doings, .inl (g.2.1 0, 2, .inl t_doings)), (tA_doing, .inl (g.2.1 0, 72, .inl t_doing_16))]) [0, 1] [2, 3] [2, 3, 0, 1] 0 5 ⟨hx, hb, hml, hown, hts⟩ hK hX hP hD hS hA (m_X5_number l g tA tA_text tA_is tA_doings tA_doing tA_row tA_isKept tA_best tA_heats tA_orders tA_has tA_salt tA_crumbs t_length t_at_6 t_begin_7 t_told_8 t_items t_when t_most t_mostAt t_hiss t_tests t_traced t_hasSkin t_hasBend t_text 1 99 (by first | assumption | omega | exact x_e8 (by assumption) (by assumption)) (by first | assumption | omega | exact x_e8 (by assumption) (by assumption))) (cwV 2 hts (x_gV kw_320 kw_321 kw_322 kw_5 kw_323) rfl rfl rfl vX5_number ⟨Nat.le_of_ble_eq_true rfl, Nat.le_of_ble_eq_true rfl⟩) rfl rfl rfl rfl rfl rfl rfl (by decide) (fun _ => rfl) rfl rfl hl.1 rfl (Nat.le_of_ble_eq_true rfl) dX5_isDoing_123 ⟨Nat.zero_le _, Nat.zero_le _⟩ (fun z_33 u H locs hw_34 hP hD hS => ?_)
              obtain ⟨t_at_30, t_begin_31, t_told_32⟩ := u
              obtain ⟨⟨hw_34, b_35⟩, he⟩ := hw_34
              obtain ⟨en_123_0, en_123_1, en_123_2⟩ := he
              have en_123_0 : t_at_30 ≤ 300 := en_123_0
              have en_123_1 : t_begin_31 ≤ t_at_30 := en_123_1
              have en_123_2 : t_at_6 ≤ t_at_30 := en_123_2
              have hP : va_P g.1 vwCl [(tA, .inr (5, [.int (nI t_length), .ref tA_text, .int (nI t_at_30), .int (nI t_begin_31), .int t_told_32, .ref tA_is, .ref tA_doings, .ref tA_doing, .int t_items, .ref tA_row, .ref tA_isKept, .int t_when, .int t_most, .int t_mostAt, .int t_hiss, .ref tA_best, .ref tA_heats, .ref tA_orders, .ref tA_has, .int (nI t_tests), .ref tA_salt, .ref tA_crumbs, .long t_traced, .int t_hasSkin, .int t_hasBend])), (tA_text, .inl (g.2.1 2, 300, .inl t_text)), (tA_doings, .inl (g.2.1 0, 2, .inl t_doings)), (tA_doing, .inl (g.2.1 0, 72, .inl t_doing_16))] H := hP
              have hD : va_D A [(tA, .inr (5, [.int (nI t_length), .ref tA_text, .int (nI t_at_30), .int (nI t_begin_31), .int t_told_32, .ref tA_is, .ref tA_doings, .ref tA_doing, .int t_items, .ref tA_row, .ref tA_isKept, .int t_when, .int t_most, .int t_mostAt, .int t_hiss, .ref tA_best, .ref tA_heats, .ref tA_orders, .ref tA_has, .int (nI t_tests), .ref tA_salt, .ref tA_crumbs, .long t_traced, .int t_hasSkin, .int t_hasBend])), (tA_text, .inl (g.2.1 2, 300, .inl t_text)), (tA_doings, .inl (g.2.1 0, 2, .inl t_doings)), (tA_doing, .inl (g.2.1 0, 72, .inl t_doing_16))] := hD
              have E := x_nm_eq E hw_34
              refine x_if_neI (tgt := 131) hx hb dX5_isDoing_126 (by decide) (fun c_37 => ?_) (fun c_37 => ?_)
              · have E := x_neg E c_37
                refine lv_aload_n hx hb dX5_isDoing_131 rfl (lv_at hl 0 rfl) ?_
                refine va_get (ci := 5) (v := .ref tA_doing) (C := RX5) (T := TX5) (N := 25) hx hb hts inlX5 hown hK.1 hP 0 rfl rfl 7 (by decide) (hts _ kw_96) (fun _ h9 => h9) rfl dX5_isDoing_132 ?_
                refine lv_iload_n hx hb dX5_isDoing_135 rfl (lv_at hl 2 rfl) ?_
                refine lv_iconst (v := 2) hx hb dX5_isDoing_136 (by decide) ?_
                refine lv_iadd hx hb dX5_isDoing_137 ?_
                refine x_eqi (nI_add (36 + (3 * ((t_doings 1).toNatClampNeg))) 2) ?_
                refine lv_aload_n hx hb dX5_isDoing_138 rfl (lv_at hl 0 rfl) ?_
                refine va_get (ci := 5) (v := .int t_told_32) (C := RX5) (T := TX5) (N := 25) hx hb hts inlX5 hown hK.1 hP 0 rfl rfl 4 (by decide) (hts _ kw_316) (fun _ h9 => h9) rfl dX5_isDoing_139 ?_
                refine x_iastN hx hb hK hP hD hS 3 ((36 + (3 * ((t_doings 1).toNatClampNeg))) + 2) rfl (by omega) (by decide) dX5_isDoing_142 (fun t_doing_38 H locs hf hP hD hS => ?_)
                have hP : va_P g.1 vwCl [(tA, .inr (5, [.int (nI t_length), .ref tA_text, .int (nI t_at_30), .int (nI t_begin_31), .int t_told_32, .ref tA_is, .ref tA_doings, .ref tA_doing, .int t_items, .ref tA_row, .ref tA_isKept, .int t_when, .int t_most, .int t_mostAt, .int t_hiss, .ref tA_best, .ref tA_heats, .ref tA_orders, .ref tA_has, .int (nI t_tests), .ref tA_salt, .ref tA_crumbs, .long t_traced, .int t_hasSkin, .int t_hasBend])), (tA_text, .inl (g.2.1 2, 300, .inl t_text)), (tA_doings, .inl (g.2.1 0, 2, .inl t_doings)), (tA_doing, .inl (g.2.1 0, 72, .inl t_doing_38))] H := hP
                have hD : va_D A [(tA, .inr (5, [.int (nI t_length), .ref tA_text, .int (nI t_at_30), .int (nI t_begin_31), .int t_told_32, .ref tA_is, .ref tA_doings, .ref tA_doing, .int t_items, .ref tA_row, .ref tA_isKept, .int t_when, .int t_most, .int t_mostAt, .int t_hiss, .ref tA_best, .ref tA_heats, .ref tA_orders, .ref tA_has, .int (nI t_tests), .ref tA_salt, .ref tA_crumbs, .long t_traced, .int t_hasSkin, .int t_hasBend])), (tA_text, .inl (g.2.1 2, 300, .inl t_text)), (tA_doings, .inl (g.2.1 0, 2, .inl t_doings)), (tA_doing, .inl (g.2.1 0, 72, .inl t_doing_38))] := hD
                have E := x_nm_eq E hf
                refine lv_aload_n hx hb dX5_isDoing_143 rfl (lv_at hl 0 rfl) ?_
                refine va_get (ci := 5) (v := .ref tA_doings) (C := RX5) (T := TX5) (N := 25) hx hb hts inlX5 hown hK.1 hP 0 rfl rfl 6 (by decide) (hts _ kw_95) (fun _ h9 => h9) rfl dX5_isDoing_144 ?_
                refine lv_iconst (v := 1) hx hb dX5_isDoing_147 (by decide) ?_
                refine lv_dup2_11 hx hb dX5_isDoing_148 rfl rfl ?_
                refine x_ialdN hx hb hK hP 2 1 rfl (by omega) (by decide) dX5_isDoing_149 ?_
                refine x_eqi (h_4) ?_
                refine lv_iconst (v := 1) hx hb dX5_isDoing_150 (by decide) ?_
                refine lv_iadd hx hb dX5_isDoing_151 ?_
                refine x_eqi (nI_add ((t_doings 1).toNatClampNeg) 1) ?_
                refine x_iastN hx hb hK hP hD hS 2 1 rfl (by omega) (by decide) dX5_isDoing_152 (fun t_doings_39 H locs hf hP hD hS => ?_)
                have hP : va_P g.1 vwCl [(tA, .inr (5, [.int (nI t_length), .ref tA_text, .int (nI t_at_30), .int (nI t_begin_31), .int t_told_32, .ref tA_is, .ref tA_doings, .ref tA_doing, .int t_items, .ref tA_row, .ref tA_isKept, .int t_when, .int t_most, .int t_mostAt, .int t_hiss, .ref tA_best, .ref tA_heats, .ref tA_orders, .ref tA_has, .int (nI t_tests), .ref tA_salt, .ref tA_crumbs, .long t_traced, .int t_hasSkin, .int t_hasBend])), (tA_text, .inl (g.2.1 2, 300, .inl t_text)), (tA_doings, .inl (g.2.1 0, 2, .inl t_doings_39)), (tA_doing, .inl (g.2.1 0, 72, .inl t_doing_38))] H := hP
                have hD : va_D A [(tA, .inr (5, [.int (nI t_length), .ref tA_text, .int (nI t_at_30), .int (nI t_begin_31), .int t_told_32, .ref tA_is, .ref tA_doings, .ref tA_doing, .int t_items, .ref tA_row, .ref tA_isKept, .int t_when, .int t_most, .int t_mostAt, .int t_hiss, .ref tA_best, .ref tA_heats, .ref tA_orders, .ref tA_has, .int (nI t_tests), .ref tA_salt, .ref tA_crumbs, .long t_traced, .int t_hasSkin, .int t_hasBend])), (tA_text, .inl (g.2.1 2, 300, .inl t_text)), (tA_doings, .inl (g.2.1 0, 2, .inl t_doings_39)), (tA_doing, .inl (g.2.1 0, 72, .inl t_doing_38))] := hD
                have E := x_nm_eq E hf
                refine lv_iconst (v := 1) hx hb dX5_isDoing_153 (by decide) ?_
                exact RET 1 (t_at_30, t_begin_31, t_told_32, t_doings_39, t_doing_38) H locs _ _ ⟨⟨E.symm.trans hO, (Or.inr rfl)⟩, (show t_at_30 ≤ 300 by first | omega | assumption | exact Or.inl rfl | exact Or.inr (by omega)), (show t_begin_31 ≤ 300 by first | omega | assumption | exact Or.inl rfl | exact Or.inr (by omega)), (show t_at ≤ t_at_30 by first | omega | assumption | exact Or.inl rfl | exact Or.inr (by omega)), (show (t_doings_39 1).toNatClampNeg ≤ 12 from by first | assumption | (rw [hf, pk_us, nI_clamp (by omega)]; omega)), (show t_doings_39 1 = nI (t_doings_39 1).toNatClampNeg from by first | assumption | (rw [hf, pk_us, nI_clamp (by omega)]))⟩ (x_nar (Or.inr rfl)) hP hD hS dX5_isDoing_154
              · have E := x_pos E c_37
                refine lv_iconst (v := 0) hx hb dX5_isDoing_129 (by decide) ?_
                exact RET 0 (t_at_30, t_begin_31, t_told_32, t_doings, t_doing_16) H locs _ _ ⟨⟨E.symm.trans hO, (Or.inl rfl)⟩, (show t_at_30 ≤ 300 by first | omega | assumption | exact Or.inl rfl | exact Or.inr (by omega)), (show t_begin_31 ≤ 300 by first | omega | assumption | exact Or.inl rfl | exact Or.inr (by omega)), (show t_at ≤ t_at_30 by first | omega | assumption | exact Or.inl rfl | exact Or.inr (by omega)), (show (t_doings 1).toNatClampNeg ≤ 12 from by first | assumption | (rw [hf, pk_us, nI_clamp (by omega)]; omega)), (show t_doings 1 = nI (t_doings 1).toNatClampNeg from by first | assumption | (rw [hf, pk_us, nI_clamp (by omega)]))⟩ (x_nar (Or.inl rfl)) hP hD hS dX5_isDoing_130
        · have E := x_pos E c_13
          refine lv_iconst (v := 0) hx hb dX5_isDoing_80 (by decide) ?_
          exact RET 0 (t_at_6, t_begin_7, t_told_8, t_doings, t_doing) H locs _ _ ⟨⟨E.symm.trans hO, (Or.inl rfl)⟩, (show t_at_6 ≤ 300 by first | omega | assumption | exact Or.inl rfl | exact Or.inr (by omega)), (show t_begin_7 ≤ 300 by first | omega | assumption | exact Or.inl rfl | exact Or.inr (by omega)), (show t_at ≤ t_at_6 by first | omega | assumption | exact Or.inl rfl | exact Or.inr (by omega)), (show (t_doings 1).toNatClampNeg ≤ 12 from by first | assumption | (rw [hf, pk_us, nI_clamp (by omega)]; omega)), (show t_doings 1 = nI (t_doings 1).toNatClampNeg from by first | assumption | (rw [hf, pk_us, nI_clamp (by omega)]))⟩ (x_nar (Or.inl rfl)) hP hD hS dX5_isDoing_81
      have E := E_5
      refine x_if_neI (tgt := 53) hx hb dX5_isDoing_44 (by decide) (fun c_40 => ?_) (fun c_40 => ?_)
      · have E := x_neg E c_40
        refine lv_iload_n hx hb dX5_isDoing_53 rfl (lv_at hl 1 rfl) ?_
        refine lv_iconst (v := 1) hx hb dX5_isDoing_54 (by decide) ?_
        refine x_icmp_neI (tgt := 62) hx hb dX5_isDoing_55 (by decide) (fun c_41 => ?_) (fun c_41 => ?_)
        · have E := x_neg E c_41
          refine lv_iload_n hx hb dX5_isDoing_62 rfl (lv_at hl 1 rfl) ?_
          refine lv_iconst (v := 2) hx hb dX5_isDoing_63 (by decide) ?_
          refine x_icmp_neI (tgt := 72) hx hb dX5_isDoing_64 (by decide) (fun c_42 => ?_) (fun c_42 => ?_)
          · have E := x_neg E c_42
            refine lv_bipush (v := 100) hx hb dX5_isDoing_72 (by decide) ?_
            exact J_5 100 E  H locs ls hP hD hS (lv_sub hl [0, 1, 2] rfl)
          · have E := x_pos E c_42
            refine lv_bipush (v := 9) hx hb dX5_isDoing_67 (by decide) ?_
            refine lv_goto (tgt := 74) hx hb dX5_isDoing_69 (by decide) ?_
            exact J_5 9 E  H locs ls hP hD hS (lv_sub hl [0, 1, 2] rfl)
        · have E := x_pos E c_41
          refine lv_iconst (v := 3) hx hb dX5_isDoing_58 (by decide) ?_
          refine lv_goto (tgt := 74) hx hb dX5_isDoing_59 (by decide) ?_
          exact J_5 3 E  H locs ls hP hD hS (lv_sub hl [0, 1, 2] rfl)
      · have E := x_pos E c_40
        refine lv_sipush (v := 300) hx hb dX5_isDoing_47 (by decide) ?_
        refine lv_goto (tgt := 74) hx hb dX5_isDoing_50 (by decide) ?_
        exact J_5 300 E  H locs ls hP hD hS (lv_sub hl [0, 1, 2] rfl)
    have E := E_3
    refine x_icmp_neI (tgt := 34) hx hb dX5_isDoing_26 (by decide) (fun c_43 => ?_) (fun c_43 => ?_)
    · have E := x_neg E c_43
      refine lv_iload_n hx hb dX5_isDoing_34 rfl (lv_at hl 2 rfl) ?_
      refine x_if_neI (tgt := 42) hx hb dX5_isDoing_35 (by decide) (fun c_44 => ?_) (fun c_44 => ?_)
      · have E := x_neg E c_44
        refine lv_iconst (v := 1) hx hb dX5_isDoing_42 (by decide) ?_
        exact J_3 1 E  H locs ls hP hD hS (lv_sub hl [1, 2, 0] rfl)
      · have E := x_pos E c_44
        refine lv_iconst (v := 0) hx hb dX5_isDoing_38 (by decide) ?_
        refine lv_goto (tgt := 43) hx hb dX5_isDoing_39 (by decide) ?_
        exact J_3 0 E  H locs ls hP hD hS (lv_sub hl [1, 2, 0] rfl)
    · have E := x_pos E c_43
      refine lv_bipush (v := 20) hx hb dX5_isDoing_29 (by decide) ?_
      refine lv_goto (tgt := 43) hx hb dX5_isDoing_31 (by decide) ?_
      exact J_3 20 E  H locs ls hP hD hS (lv_sub hl [1, 2, 0] rfl)
abbrev rX5_isItem : Room := { frames := 3, cells := 0, slots := 0, locals := 70 }
theorem vX5_isItem : yX5_isItem.cls = RX5 ∧ yX5_isItem.cls ≠ "java/lang/invoke/MethodHandle" ∧ yX5_isItem.cls ≠ "java/lang/invoke/VarHandle" ∧ (parseMethodDescriptor yX5_isItem.desc).map (fun d => d.parameters.length) = some 0 := by decide +kernel
abbrev wX5_isItem : List Cond := Cond.code yX5_isItem cX5_isItem 3 (some .boolean) :: wsL_law
def F_X5_isItem (t_length : Nat) (t_text : Nat → Int32) (t_at : Nat) (t_told : Int32) (t_is : Nat → Int32) (t_doings : Nat → Int32) (t_doing : Nat → Int32) (t_hasSkin : Int32) (t_hasBend : Int32) : Int32 × Nat × Nat × Int32 × Int32 × Int32 × (Nat → Int32) × (Nat → Int32) × (Nat → Int32) :=
  x_nm (F_X5_word t_length t_text t_at) fun u_5 => x_nm (α := Int32 × Nat × Nat × Int32 × Int32 × Int32 × (Nat → Int32) × (Nat → Int32) × (Nat → Int32)) (if u_5.1 < 0 then (0, u_5.2.1, u_5.2.2, t_told, t_hasSkin, t_hasBend, t_is, t_doings, t_doing) else if u_5.1 = 4 then x_nm (F_X5_isSkin t_length t_text u_5.2.1 u_5.2.2 t_told t_is t_hasSkin) fun u_59 => if u_59.1 = 0 then (0, u_59.2.1, u_59.2.2.1, u_59.2.2.2.1, u_59.2.2.2.2.1, t_hasBend, u_59.2.2.2.2.2, t_doings, t_doing) else (1, u_59.2.1, u_59.2.2.1, u_59.2.2.2.1, u_59.2.2.2.2.1, t_hasBend, u_59.2.2.2.2.2, t_doings, t_doing) else if u_5.1 = 5 then x_nm (F_X5_isBend t_length t_text u_5.2.1 u_5.2.2 t_told t_is t_hasBend) fun u_49 => if u_49.1 = 0 then (0, u_49.2.1, u_49.2.2.1, u_49.2.2.2.1, t_hasSkin, u_49.2.2.2.2.1, u_49.2.2.2.2.2, t_doings, t_doing) else (1, u_49.2.1, u_49.2.2.1, u_49.2.2.2.1, t_hasSkin, u_49.2.2.2.2.1, u_49.2.2.2.2.2, t_doings, t_doing) else x_nm (F_X5_isDoing t_length t_text u_5.2.1 u_5.2.2 t_told t_doings t_doing u_5.1) fun u_39 => if u_39.1 = 0 then (0, u_39.2.1, u_39.2.2.1, u_39.2.2.2.1, t_hasSkin, t_hasBend, t_is, u_39.2.2.2.2.1, u_39.2.2.2.2.2) else (1, u_39.2.1, u_39.2.2.1, u_39.2.2.2.1, t_hasSkin, t_hasBend, t_is, u_39.2.2.2.2.1, u_39.2.2.2.2.2)) fun u_15 => x_nm (α := Int32 × Nat × Nat) (if u_15.1 = 0 then (0, u_15.2.1, u_15.2.2.1) else x_nm (F_X5_ends t_length t_text u_15.2.1) fun u_26 => if u_26.1 = 0 then (0, u_26.2.1, u_26.2.2) else (1, u_26.2.1, u_26.2.2)) fun u_19 => (u_19.1, u_19.2.1, u_19.2.2, u_15.2.2.2.1, u_15.2.2.2.2.1, u_15.2.2.2.2.2.1, u_15.2.2.2.2.2.2.1, u_15.2.2.2.2.2.2.2.1, u_15.2.2.2.2.2.2.2.2)
set_option maxHeartbeats 4000000 in
set_option maxRecDepth 100000 in
theorem m_X5_isItem (l : Launch) (g : x_G) (tA tA_text tA_is tA_doings tA_doing tA_row tA_isKept tA_best tA_heats tA_orders tA_has tA_salt tA_crumbs : Nat) (t_length : Nat) (t_at : Nat) (t_begin : Nat) (t_told : Int32) (t_items : Int32) (t_when : Int32) (t_most : Int32) (t_mostAt : Int32) (t_hiss : Int32) (t_tests : Nat) (t_traced : Int64) (t_hasSkin : Int32) (t_hasBend : Int32) (t_text : Nat → Int32) (t_is : Nat → Int32) (t_doings : Nat → Int32) (t_doing : Nat → Int32) (h_0 : t_length ≤ 300) (h_1 : t_at ≤ 300) (h_2 : t_begin ≤ 300) (h_3 : (t_doings 1).toNatClampNeg ≤ 12) (h_4 : t_doings 1 = nI (t_doings 1).toNatClampNeg) : x_MetI l yX5_isItem wX5_isItem rX5_isItem g [.ref tA] [(tA, .inr (5, [.int (nI t_length), .ref tA_text, .int (nI t_at), .int (nI t_begin), .int t_told, .ref tA_is, .ref tA_doings, .ref tA_doing, .int t_items, .ref tA_row, .ref tA_isKept, .int t_when, .int t_most, .int t_mostAt, .int t_hiss, .ref tA_best, .ref tA_heats, .ref tA_orders, .ref tA_has, .int (nI t_tests), .ref tA_salt, .ref tA_crumbs, .long t_traced, .int t_hasSkin, .int t_hasBend])), (tA_text, .inl (g.2.1 2, 300, .inl t_text)), (tA_is, .inl (g.2.1 0, 18, .inl t_is)), (tA_doings, .inl (g.2.1 0, 2, .inl t_doings)), (tA_doing, .inl (g.2.1 0, 72, .inl t_doing))] (fun (r : Int32) (u : Nat × Nat × Int32 × Int32 × Int32 × (Nat → Int32) × (Nat → Int32) × (Nat → Int32)) => (((r, u) = F_X5_isItem t_length t_text t_at t_told t_is t_doings t_doing t_hasSkin t_hasBend) ∧ (r = 0 ∨ r = 1)) ∧ (u.1 ≤ 301) ∧ (u.2.1 ≤ 300) ∧ (r = 0 ∨ u.1 ≤ 300) ∧ (r = 0 ∨ t_at < u.1) ∧ ((u.2.2.2.2.2.2.1 1).toNatClampNeg ≤ 12) ∧ (u.2.2.2.2.2.2.1 1 = nI (u.2.2.2.2.2.2.1 1).toNatClampNeg)) (fun u => [(tA, .inr (5, [.int (nI t_length), .ref tA_text, .int (nI u.1), .int (nI u.2.1), .int u.2.2.1, .ref tA_is, .ref tA_doings, .ref tA_doing, .int t_items, .ref tA_row, .ref tA_isKept, .int t_when, .int t_most, .int t_mostAt, .int t_hiss, .ref tA_best, .ref tA_heats, .ref tA_orders, .ref tA_has, .int (nI t_tests), .ref tA_salt, .ref tA_crumbs, .long t_traced, .int u.2.2.2.1, .int u.2.2.2.2.1])), (tA_text, .inl (g.2.1 2, 300, .inl t_text)), (tA_is, .inl (g.2.1 0, 18, .inl u.2.2.2.2.2.1)), (tA_doings, .inl (g.2.1 0, 2, .inl u.2.2.2.2.2.2.1)), (tA_doing, .inl (g.2.1 0, 72, .inl u.2.2.2.2.2.2.2))]) := by
  refine x_startI (cc := cX5_isItem) (maxL := 3) (by decide) rfl (Nat.le_of_ble_eq_true rfl) ?_
  intro p e s m args below meth c Q A ls H locs hx hb hml hown hts hK hX hP hD hS hA hl RET
  have hown : s.vm.findClass RX5 = some m.cls := hown
  have hl : lv_has ls 3 [(0, .ref tA)] := hl
  obtain ⟨o_0, hO⟩ : ∃ z, z = F_X5_isItem t_length t_text t_at t_told t_is t_doings t_doing t_hasSkin t_hasBend := ⟨_, rfl⟩
  have E := hO
  rw [F_X5_isItem.eq_1] at E
  refine lv_aload_n hx hb dX5_isItem_0 rfl (lv_at hl 0 rfl) ?_
  refine x_callVi (w2 := fun u => [(tA, .inr (5, [.int (nI t_length), .ref tA_text, .int (nI u.1), .int (nI u.2), .int t_told, .ref tA_is, .ref tA_doings, .ref tA_doing, .int t_items, .ref tA_row, .ref tA_isKept, .int t_when, .int t_most, .int t_mostAt, .int t_hiss, .ref tA_best, .ref tA_heats, .ref tA_orders, .ref tA_has, .int (nI t_tests), .ref tA_salt, .ref tA_crumbs, .long t_traced, .int t_hasSkin, .int t_hasBend])), (tA_text, .inl (g.2.1 2, 300, .inl t_text)), (tA_is, .inl (g.2.1 0, 18, .inl t_is)), (tA_doings, .inl (g.2.1 0, 2, .inl t_doings)), (tA_doing, .inl (g.2.1 0, 72, .inl t_doing))]) (wr := [(tA_is, .inl (g.2.1 0, 18, .inl t_is)), (tA_doings, .inl (g.2.1 0, 2, .inl t_doings)), (tA_doing, .inl (g.2.1 0, 72, .inl t_doing))]) [0, 1] [2, 3, 4] [3, 4, 0, 1, 2] 0 5 ⟨hx, hb, hml, hown, hts⟩ hK hX hP hD hS hA (m_X5_word l g tA tA_text tA_is tA_doings tA_doing tA_row tA_isKept tA_best tA_heats tA_orders tA_has tA_salt tA_crumbs t_length t_at t_begin t_told t_items t_when t_most t_mostAt t_hiss t_tests t_traced t_hasSkin t_hasBend t_text (by first | assumption | omega | exact x_e8 (by assumption) (by assumption)) (by first | assumption | omega | exact x_e8 (by assumption) (by assumption))) (cwV 0 hts (x_gV kw_298 kw_299 kw_300 kw_5 kw_301) rfl rfl rfl vX5_word ⟨Nat.le_of_ble_eq_true rfl, Nat.le_of_ble_eq_true rfl⟩) rfl rfl rfl rfl rfl rfl rfl (by decide) (fun _ => rfl) rfl rfl hl.1 rfl (Nat.le_of_ble_eq_true rfl) dX5_isItem_1 ⟨Nat.zero_le _, Nat.zero_le _⟩ (fun z_3 u H locs hw_4 hP hD hS => ?_)
  obtain ⟨t_at_1, t_begin_2⟩ := u
  obtain ⟨hw_4, en_1_0, en_1_1, en_1_2⟩ := hw_4
  have en_1_0 : t_at_1 ≤ 300 := en_1_0
  have en_1_1 : t_begin_2 ≤ t_at_1 := en_1_1
  have en_1_2 : t_at ≤ t_at_1 := en_1_2
  have hP : va_P g.1 vwCl [(tA, .inr (5, [.int (nI t_length), .ref tA_text, .int (nI t_at_1), .int (nI t_begin_2), .int t_told, .ref tA_is, .ref tA_doings, .ref tA_doing, .int t_items, .ref tA_row, .ref tA_isKept, .int t_when, .int t_most, .int t_mostAt, .int t_hiss, .ref tA_best, .ref tA_heats, .ref tA_orders, .ref tA_has, .int (nI t_tests), .ref tA_salt, .ref tA_crumbs, .long t_traced, .int t_hasSkin, .int t_hasBend])), (tA_text, .inl (g.2.1 2, 300, .inl t_text)), (tA_is, .inl (g.2.1 0, 18, .inl t_is)), (tA_doings, .inl (g.2.1 0, 2, .inl t_doings)), (tA_doing, .inl (g.2.1 0, 72, .inl t_doing))] H := hP
  have hD : va_D A [(tA, .inr (5, [.int (nI t_length), .ref tA_text, .int (nI t_at_1), .int (nI t_begin_2), .int t_told, .ref tA_is, .ref tA_doings, .ref tA_doing, .int t_items, .ref tA_row, .ref tA_isKept, .int t_when, .int t_most, .int t_mostAt, .int t_hiss, .ref tA_best, .ref tA_heats, .ref tA_orders, .ref tA_has, .int (nI t_tests), .ref tA_salt, .ref tA_crumbs, .long t_traced, .int t_hasSkin, .int t_hasBend])), (tA_text, .inl (g.2.1 2, 300, .inl t_text)), (tA_is, .inl (g.2.1 0, 18, .inl t_is)), (tA_doings, .inl (g.2.1 0, 2, .inl t_doings)), (tA_doing, .inl (g.2.1 0, 72, .inl t_doing))] := hD
  have E := x_nm_eq E hw_4
  refine lv_istore_n (lv' := [(1, .int z_3), (0, .ref tA)]) hx hb dX5_isItem_4 rfl hl (by decide) rfl (fun ls hl => ?_)
  refine lv_iload_n hx hb dX5_isItem_5 rfl (lv_at hl 0 rfl) ?_
  obtain ⟨o_15, E_15, E⟩ := x_nm_ex E
  have J_15 : ∀ (v_6 : Int32) (t_at_7 : Nat) (t_begin_8 : Nat) (t_told_9 : Int32) (t_hasSkin_10 : Int32) (t_hasBend_11 : Int32) (t_is_12 : Nat → Int32) (t_doings_13 : Nat → Int32) (t_doing_14 : Nat → Int32), o_15 = (v_6, t_at_7, t_begin_8, t_told_9, t_hasSkin_10, t_hasBend_11, t_is_12, t_doings_13, t_doing_14) → (t_at_7 ≤ 300) → (t_begin_8 ≤ 300) → (t_at ≤ t_at_7) → ((t_doings_13 1).toNatClampNeg ≤ 12) → (t_doings_13 1 = nI (t_doings_13 1).toNatClampNeg) → (v_6 = 0 ∨ v_6 = 1) → ∀ (H : Heap) (locs : List Loc) (ls : Array Slot), va_P g.1 vwCl [(tA, .inr (5, [.int (nI t_length), .ref tA_text, .int (nI t_at_7), .int (nI t_begin_8), .int t_told_9, .ref tA_is, .ref tA_doings, .ref tA_doing, .int t_items, .ref tA_row, .ref tA_isKept, .int t_when, .int t_most, .int t_mostAt, .int t_hiss, .ref tA_best, .ref tA_heats, .ref tA_orders, .ref tA_has, .int (nI t_tests), .ref tA_salt, .ref tA_crumbs, .long t_traced, .int t_hasSkin_10, .int t_hasBend_11])), (tA_text, .inl (g.2.1 2, 300, .inl t_text)), (tA_is, .inl (g.2.1 0, 18, .inl t_is_12)), (tA_doings, .inl (g.2.1 0, 2, .inl t_doings_13)), (tA_doing, .inl (g.2.1 0, 72, .inl t_doing_14))] H → va_D A [(tA, .inr (5, [.int (nI t_length), .ref tA_text, .int (nI t_at_7), .int (nI t_begin_8), .int t_told_9, .ref tA_is, .ref tA_doings, .ref tA_doing, .int t_items, .ref tA_row, .ref tA_isKept, .int t_when, .int t_most, .int t_mostAt, .int t_hiss, .ref tA_best, .ref tA_heats, .ref tA_orders, .ref tA_has, .int (nI t_tests), .ref tA_salt, .ref tA_crumbs, .long t_traced, .int t_hasSkin_10, .int t_hasBend_11])), (tA_text, .inl (g.2.1 2, 300, .inl t_text)), (tA_is, .inl (g.2.1 0, 18, .inl t_is_12)), (tA_doings, .inl (g.2.1 0, 2, .inl t_doings_13)), (tA_doing, .inl (g.2.1 0, 72, .inl t_doing_14))] → va_S A s.heap H locs → lv_has ls 3 [(0, .ref tA)] → W p l e rX5_isItem s m args below meth c H locs 0 0 Q (F0 m 52 ls [.int v_6]) := by
    intro v_6 t_at_7 t_begin_8 t_told_9 t_hasSkin_10 t_hasBend_11 t_is_12 t_doings_13 t_doing_14 hE f_15_0 f_15_1 f_15_2 f_15_3 f_15_4 f_15_5 H locs ls hP hD hS hl
    try rw [hE] at E
    refine lv_istore_n (lv' := [(2, .int v_6), (0, .ref tA)]) hx hb dX5_isItem_52 rfl hl (by decide) rfl (fun ls hl => ?_)
    refine lv_iload_n hx hb dX5_isItem_53 rfl (lv_at hl 0 rfl) ?_
    obtain ⟨o_19, E_19, E⟩ := x_nm_ex E
    have J_19 : ∀ (v_16 : Int32) (t_at_17 : Nat) (t_begin_18 : Nat), o_19 = (v_16, t_at_17, t_begin_18) → (v_16 = 0 ∨ t_at_17 ≤ 300) → (v_16 = 0 ∨ t_at < t_at_17) → (t_at_17 ≤ 301) → (t_begin_18 ≤ 300) → (v_16 = 0 ∨ v_16 = 1) → ∀ (H : Heap) (locs : List Loc) (ls : Array Slot), va_P g.1 vwCl [(tA, .inr (5, [.int (nI t_length), .ref tA_text, .int (nI t_at_17), .int (nI t_begin_18), .int t_told_9, .ref tA_is, .ref tA_doings, .ref tA_doing, .int t_items, .ref tA_row, .ref tA_isKept, .int t_when, .int t_most, .int t_mostAt, .int t_hiss, .ref tA_best, .ref tA_heats, .ref tA_orders, .ref tA_has, .int (nI t_tests), .ref tA_salt, .ref tA_crumbs, .long t_traced, .int t_hasSkin_10, .int t_hasBend_11])), (tA_text, .inl (g.2.1 2, 300, .inl t_text)), (tA_is, .inl (g.2.1 0, 18, .inl t_is_12)), (tA_doings, .inl (g.2.1 0, 2, .inl t_doings_13)), (tA_doing, .inl (g.2.1 0, 72, .inl t_doing_14))] H → va_D A [(tA, .inr (5, [.int (nI t_length), .ref tA_text, .int (nI t_at_17), .int (nI t_begin_18), .int t_told_9, .ref tA_is, .ref tA_doings, .ref tA_doing, .int t_items, .ref tA_row, .ref tA_isKept, .int t_when, .int t_most, .int t_mostAt, .int t_hiss, .ref tA_best, .ref tA_heats, .ref tA_orders, .ref tA_has, .int (nI t_tests), .ref tA_salt, .ref tA_crumbs, .long t_traced, .int t_hasSkin_10, .int t_hasBend_11])), (tA_text, .inl (g.2.1 2, 300, .inl t_text)), (tA_is, .inl (g.2.1 0, 18, .inl t_is_12)), (tA_doings, .inl (g.2.1 0, 2, .inl t_doings_13)), (tA_doing, .inl (g.2.1 0, 72, .inl t_doing_14))] → va_S A s.heap H locs → lv_has ls 3 [] → W p l e rX5_isItem s m args below meth c H locs 0 0 Q (F0 m 69 ls [.int v_16]) := by
      intro v_16 t_at_17 t_begin_18 hE f_19_0 f_19_1 f_19_2 f_19_3 f_19_4 H locs ls hP hD hS hl
      try rw [hE] at E
      exact RET v_16 (t_at_17, t_begin_18, t_told_9, t_hasSkin_10, t_hasBend_11, t_is_12, t_doings_13, t_doing_14) H locs _ _ ⟨⟨E.symm.trans hO, (by assumption)⟩, (show t_at_17 ≤ 301 by first | omega | assumption | exact Or.inl rfl | exact Or.inr (by omega)), (show t_begin_18 ≤ 300 by first | omega | assumption | exact Or.inl rfl | exact Or.inr (by omega)), (show (v_16 = 0 ∨ t_at_17 ≤ 300) by first | omega | assumption | exact Or.inl rfl | exact Or.inr (by omega)), (show (v_16 = 0 ∨ t_at < t_at_17) by first | omega | assumption | exact Or.inl rfl | exact Or.inr (by omega)), (show (t_doings_13 1).toNatClampNeg ≤ 12 from by assumption), (show t_doings_13 1 = nI (t_doings_13 1).toNatClampNeg from by assumption)⟩ (x_nar (by assumption)) hP hD hS dX5_isItem_69
    have E := E_19
    refine lv_if_eq (tgt := 68) hx hb dX5_isItem_54 (by decide) (fun c_20 => ?_) (fun c_20 => ?_)
    · have E := x_pos E c_20
      refine lv_iconst (v := 0) hx hb dX5_isItem_68 (by decide) ?_
      exact J_19 0 t_at_7 t_begin_8 E (by first | omega | assumption | rfl | exact Or.inl rfl | exact Or.inr (by omega)) (by first | omega | assumption | rfl | exact Or.inl rfl | exact Or.inr (by omega)) (by first | omega | assumption | rfl | exact Or.inl rfl | exact Or.inr (by omega)) (by first | omega | assumption | rfl | exact Or.inl rfl | exact Or.inr (by omega)) (Or.inl rfl) H locs ls hP hD hS (lv_sub hl [] rfl)
    · have E := x_neg E c_20
      refine lv_aload_n hx hb dX5_isItem_57 rfl (lv_at hl 1 rfl) ?_
      refine x_callVi (w2 := fun u => [(tA, .inr (5, [.int (nI t_length), .ref tA_text, .int (nI u.1), .int (nI u.2), .int t_told_9, .ref tA_is, .ref tA_doings, .ref tA_doing, .int t_items, .ref tA_row, .ref tA_isKept, .int t_when, .int t_most, .int t_mostAt, .int t_hiss, .ref tA_best, .ref tA_heats, .ref tA_orders, .ref tA_has, .int (nI t_tests), .ref tA_salt, .ref tA_crumbs, .long t_traced, .int t_hasSkin_10, .int t_hasBend_11])), (tA_text, .inl (g.2.1 2, 300, .inl t_text)), (tA_is, .inl (g.2.1 0, 18, .inl t_is_12)), (tA_doings, .inl (g.2.1 0, 2, .inl t_doings_13)), (tA_doing, .inl (g.2.1 0, 72, .inl t_doing_14))]) (wr := [(tA_is, .inl (g.2.1 0, 18, .inl t_is_12)), (tA_doings, .inl (g.2.1 0, 2, .inl t_doings_13)), (tA_doing, .inl (g.2.1 0, 72, .inl t_doing_14))]) [0, 1] [2, 3, 4] [3, 4, 0, 1, 2] 0 5 ⟨hx, hb, hml, hown, hts⟩ hK hX hP hD hS hA (m_X5_ends l g tA tA_text tA_is tA_doings tA_doing tA_row tA_isKept tA_best tA_heats tA_orders tA_has tA_salt tA_crumbs t_length t_at_7 t_begin_8 t_told_9 t_items t_when t_most t_mostAt t_hiss t_tests t_traced t_hasSkin_10 t_hasBend_11 t_text (by first | assumption | omega | exact x_e8 (by assumption) (by assumption)) (by first | assumption | omega | exact x_e8 (by assumption) (by assumption))) (cwV 0 hts (x_gV kw_334 kw_335 kw_336 kw_5 kw_337) rfl rfl rfl vX5_ends ⟨Nat.le_of_ble_eq_true rfl, Nat.le_of_ble_eq_true rfl⟩) rfl rfl rfl rfl rfl rfl rfl (by decide) (fun _ => rfl) rfl rfl hl.1 rfl (Nat.le_of_ble_eq_true rfl) dX5_isItem_58 ⟨Nat.zero_le _, Nat.zero_le _⟩ (fun z_23 u H locs hw_24 hP hD hS => ?_)
      obtain ⟨t_at_21, t_begin_22⟩ := u
      obtain ⟨⟨hw_24, b_25⟩, he⟩ := hw_24
      obtain ⟨en_58_0, en_58_1, en_58_2, en_58_3⟩ := he
      have en_58_0 : t_at_21 ≤ 301 := en_58_0
      have en_58_1 : t_begin_22 ≤ 300 := en_58_1
      have en_58_2 : t_at_7 < t_at_21 := en_58_2
      have en_58_3 : (z_23 = 0 ∨ t_at_21 ≤ 300) := en_58_3
      have hP : va_P g.1 vwCl [(tA, .inr (5, [.int (nI t_length), .ref tA_text, .int (nI t_at_21), .int (nI t_begin_22), .int t_told_9, .ref tA_is, .ref tA_doings, .ref tA_doing, .int t_items, .ref tA_row, .ref tA_isKept, .int t_when, .int t_most, .int t_mostAt, .int t_hiss, .ref tA_best, .ref tA_heats, .ref tA_orders, .ref tA_has, .int (nI t_tests), .ref tA_salt, .ref tA_crumbs, .long t_traced, .int t_hasSkin_10, .int t_hasBend_11])), (tA_text, .inl (g.2.1 2, 300, .inl t_text)), (tA_is, .inl (g.2.1 0, 18, .inl t_is_12)), (tA_doings, .inl (g.2.1 0, 2, .inl t_doings_13)), (tA_doing, .inl (g.2.1 0, 72, .inl t_doing_14))] H := hP
      have hD : va_D A [(tA, .inr (5, [.int (nI t_length), .ref tA_text, .int (nI t_at_21), .int (nI t_begin_22), .int t_told_9, .ref tA_is, .ref tA_doings, .ref tA_doing, .int t_items, .ref tA_row, .ref tA_isKept, .int t_when, .int t_most, .int t_mostAt, .int t_hiss, .ref tA_best, .ref tA_heats, .ref tA_orders, .ref tA_has, .int (nI t_tests), .ref tA_salt, .ref tA_crumbs, .long t_traced, .int t_hasSkin_10, .int t_hasBend_11])), (tA_text, .inl (g.2.1 2, 300, .inl t_text)), (tA_is, .inl (g.2.1 0, 18, .inl t_is_12)), (tA_doings, .inl (g.2.1 0, 2, .inl t_doings_13)), (tA_doing, .inl (g.2.1 0, 72, .inl t_doing_14))] := hD
      have E := x_nm_eq E hw_24
      refine lv_if_eq (tgt := 68) hx hb dX5_isItem_61 (by decide) (fun c_27 => ?_) (fun c_27 => ?_)
      · have E := x_pos E c_27
        refine lv_iconst (v := 0) hx hb dX5_isItem_68 (by decide) ?_
        exact J_19 0 t_at_21 t_begin_22 E (by first | omega | assumption | rfl | exact Or.inl rfl | exact Or.inr (by omega)) (by first | omega | assumption | rfl | exact Or.inl rfl | exact Or.inr (by omega)) (by first | omega | assumption | rfl | exact Or.inl rfl | exact Or.inr (by omega)) (by first | omega | assumption | rfl | exact Or.inl rfl | exact Or.inr (by omega)) (Or.inl rfl) H locs ls hP hD hS (lv_sub hl [] rfl)
      · have E := x_neg E c_27
        have hn := Or.resolve_left en_58_3 c_27
        refine lv_iconst (v := 1) hx hb dX5_isItem_64 (by decide) ?_
        refine lv_goto (tgt := 69) hx hb dX5_isItem_65 (by decide) ?_
        exact J_19 1 t_at_21 t_begin_22 E (by first | omega | assumption | rfl | exact Or.inl rfl | exact Or.inr (by omega)) (by first | omega | assumption | rfl | exact Or.inl rfl | exact Or.inr (by omega)) (by first | omega | assumption | rfl | exact Or.inl rfl | exact Or.inr (by omega)) (by first | omega | assumption | rfl | exact Or.inl rfl | exact Or.inr (by omega)) (Or.inr rfl) H locs ls hP hD hS (lv_sub hl [] rfl)
  have E := E_15
  refine lv_if_lt (tgt := 51) hx hb dX5_isItem_6 (by decide) (fun c_28 => ?_) (fun c_28 => ?_)
  · have E := x_pos E c_28
    refine lv_iconst (v := 0) hx hb dX5_isItem_51 (by decide) ?_
    exact J_15 0 t_at_1 t_begin_2 t_told t_hasSkin t_hasBend t_is t_doings t_doing E (by first | omega | assumption | rfl | exact Or.inl rfl | exact Or.inr (by omega)) (by first | omega | assumption | rfl | exact Or.inl rfl | exact Or.inr (by omega)) (by first | omega | assumption | rfl | exact Or.inl rfl | exact Or.inr (by omega)) (by first | omega | assumption | rfl | exact Or.inl rfl | exact Or.inr (by omega)) (by first | omega | assumption | rfl | exact Or.inl rfl | exact Or.inr (by omega)) (Or.inl rfl) H locs ls hP hD hS (lv_sub hl [1] rfl)
  · have E := x_neg E c_28
    refine lv_iload_n hx hb dX5_isItem_9 rfl (lv_at hl 0 rfl) ?_
    refine lv_iconst (v := 4) hx hb dX5_isItem_10 (by decide) ?_
    refine x_icmp_neI (tgt := 24) hx hb dX5_isItem_11 (by decide) (fun c_29 => ?_) (fun c_29 => ?_)
    · have E := x_neg E c_29
      refine lv_iload_n hx hb dX5_isItem_24 rfl (lv_at hl 0 rfl) ?_
      refine lv_iconst (v := 5) hx hb dX5_isItem_25 (by decide) ?_
      refine x_icmp_neI (tgt := 39) hx hb dX5_isItem_26 (by decide) (fun c_30 => ?_) (fun c_30 => ?_)
      · have E := x_neg E c_30
        refine lv_aload_n hx hb dX5_isItem_39 rfl (lv_at hl 1 rfl) ?_
        refine lv_iload_n hx hb dX5_isItem_40 rfl (lv_at hl 0 rfl) ?_
        refine x_callVi (w2 := fun u => [(tA, .inr (5, [.int (nI t_length), .ref tA_text, .int (nI u.1), .int (nI u.2.1), .int u.2.2.1, .ref tA_is, .ref tA_doings, .ref tA_doing, .int t_items, .ref tA_row, .ref tA_isKept, .int t_when, .int t_most, .int t_mostAt, .int t_hiss, .ref tA_best, .ref tA_heats, .ref tA_orders, .ref tA_has, .int (nI t_tests), .ref tA_salt, .ref tA_crumbs, .long t_traced, .int t_hasSkin, .int t_hasBend])), (tA_text, .inl (g.2.1 2, 300, .inl t_text)), (tA_is, .inl (g.2.1 0, 18, .inl t_is)), (tA_doings, .inl (g.2.1 0, 2, .inl u.2.2.2.1)), (tA_doing, .inl (g.2.1 0, 72, .inl u.2.2.2.2))]) (wr := [(tA_is, .inl (g.2.1 0, 18, .inl t_is))]) [0, 1, 3, 4] [2] [1, 2, 0, 3, 4] 0 5 ⟨hx, hb, hml, hown, hts⟩ hK hX hP hD hS hA (m_X5_isDoing l g tA tA_text tA_doings tA_doing tA_is tA_row tA_isKept tA_best tA_heats tA_orders tA_has tA_salt tA_crumbs t_length t_at_1 t_begin_2 t_told t_items t_when t_most t_mostAt t_hiss t_tests t_traced t_hasSkin t_hasBend t_text t_doings t_doing z_3 (by first | assumption | omega | exact x_e8 (by assumption) (by assumption)) (by first | assumption | omega | exact x_e8 (by assumption) (by assumption)) (by first | assumption | omega | exact x_e8 (by assumption) (by assumption)) (by first | assumption | omega | exact x_e8 (by assumption) (by assumption)) (by first | assumption | omega | exact x_e8 (by assumption) (by assumption))) (cwV 1 hts (x_gV kw_330 kw_331 kw_332 kw_5 kw_333) rfl rfl rfl vX5_isDoing ⟨Nat.le_of_ble_eq_true rfl, Nat.le_of_ble_eq_true rfl⟩) rfl rfl rfl rfl rfl rfl rfl (by decide) (fun _ => rfl) rfl rfl hl.1 rfl (Nat.le_of_ble_eq_true rfl) dX5_isItem_41 ⟨Nat.zero_le _, Nat.zero_le _⟩ (fun z_36 u H locs hw_37 hP hD hS => ?_)
        obtain ⟨t_at_31, t_begin_32, t_told_33, t_doings_34, t_doing_35⟩ := u
        obtain ⟨⟨hw_37, b_38⟩, he⟩ := hw_37
        obtain ⟨en_41_0, en_41_1, en_41_2, en_41_3, en_41_4⟩ := he
        have en_41_0 : t_at_31 ≤ 300 := en_41_0
        have en_41_1 : t_begin_32 ≤ 300 := en_41_1
        have en_41_2 : t_at_1 ≤ t_at_31 := en_41_2
        have en_41_3 : (t_doings_34 1).toNatClampNeg ≤ 12 := en_41_3
        have en_41_4 : t_doings_34 1 = nI (t_doings_34 1).toNatClampNeg := en_41_4
        have hP : va_P g.1 vwCl [(tA, .inr (5, [.int (nI t_length), .ref tA_text, .int (nI t_at_31), .int (nI t_begin_32), .int t_told_33, .ref tA_is, .ref tA_doings, .ref tA_doing, .int t_items, .ref tA_row, .ref tA_isKept, .int t_when, .int t_most, .int t_mostAt, .int t_hiss, .ref tA_best, .ref tA_heats, .ref tA_orders, .ref tA_has, .int (nI t_tests), .ref tA_salt, .ref tA_crumbs, .long t_traced, .int t_hasSkin, .int t_hasBend])), (tA_text, .inl (g.2.1 2, 300, .inl t_text)), (tA_is, .inl (g.2.1 0, 18, .inl t_is)), (tA_doings, .inl (g.2.1 0, 2, .inl t_doings_34)), (tA_doing, .inl (g.2.1 0, 72, .inl t_doing_35))] H := hP
        have hD : va_D A [(tA, .inr (5, [.int (nI t_length), .ref tA_text, .int (nI t_at_31), .int (nI t_begin_32), .int t_told_33, .ref tA_is, .ref tA_doings, .ref tA_doing, .int t_items, .ref tA_row, .ref tA_isKept, .int t_when, .int t_most, .int t_mostAt, .int t_hiss, .ref tA_best, .ref tA_heats, .ref tA_orders, .ref tA_has, .int (nI t_tests), .ref tA_salt, .ref tA_crumbs, .long t_traced, .int t_hasSkin, .int t_hasBend])), (tA_text, .inl (g.2.1 2, 300, .inl t_text)), (tA_is, .inl (g.2.1 0, 18, .inl t_is)), (tA_doings, .inl (g.2.1 0, 2, .inl t_doings_34)), (tA_doing, .inl (g.2.1 0, 72, .inl t_doing_35))] := hD
        have E := x_nm_eq E hw_37
        refine lv_if_eq (tgt := 51) hx hb dX5_isItem_44 (by decide) (fun c_40 => ?_) (fun c_40 => ?_)
        · have E := x_pos E c_40
          refine lv_iconst (v := 0) hx hb dX5_isItem_51 (by decide) ?_
          exact J_15 0 t_at_31 t_begin_32 t_told_33 t_hasSkin t_hasBend t_is t_doings_34 t_doing_35 E (by first | omega | assumption | rfl | exact Or.inl rfl | exact Or.inr (by omega)) (by first | omega | assumption | rfl | exact Or.inl rfl | exact Or.inr (by omega)) (by first | omega | assumption | rfl | exact Or.inl rfl | exact Or.inr (by omega)) (by first | omega | assumption | rfl | exact Or.inl rfl | exact Or.inr (by omega)) (by first | omega | assumption | rfl | exact Or.inl rfl | exact Or.inr (by omega)) (Or.inl rfl) H locs ls hP hD hS (lv_sub hl [1] rfl)
        · have E := x_neg E c_40
          refine lv_iconst (v := 1) hx hb dX5_isItem_47 (by decide) ?_
          refine lv_goto (tgt := 52) hx hb dX5_isItem_48 (by decide) ?_
          exact J_15 1 t_at_31 t_begin_32 t_told_33 t_hasSkin t_hasBend t_is t_doings_34 t_doing_35 E (by first | omega | assumption | rfl | exact Or.inl rfl | exact Or.inr (by omega)) (by first | omega | assumption | rfl | exact Or.inl rfl | exact Or.inr (by omega)) (by first | omega | assumption | rfl | exact Or.inl rfl | exact Or.inr (by omega)) (by first | omega | assumption | rfl | exact Or.inl rfl | exact Or.inr (by omega)) (by first | omega | assumption | rfl | exact Or.inl rfl | exact Or.inr (by omega)) (Or.inr rfl) H locs ls hP hD hS (lv_sub hl [1] rfl)
      · have E := x_pos E c_30
        refine lv_aload_n hx hb dX5_isItem_29 rfl (lv_at hl 1 rfl) ?_
        refine x_callVi (w2 := fun u => [(tA, .inr (5, [.int (nI t_length), .ref tA_text, .int (nI u.1), .int (nI u.2.1), .int u.2.2.1, .ref tA_is, .ref tA_doings, .ref tA_doing, .int t_items, .ref tA_row, .ref tA_isKept, .int t_when, .int t_most, .int t_mostAt, .int t_hiss, .ref tA_best, .ref tA_heats, .ref tA_orders, .ref tA_has, .int (nI t_tests), .ref tA_salt, .ref tA_crumbs, .long t_traced, .int t_hasSkin, .int u.2.2.2.1])), (tA_text, .inl (g.2.1 2, 300, .inl t_text)), (tA_is, .inl (g.2.1 0, 18, .inl u.2.2.2.2)), (tA_doings, .inl (g.2.1 0, 2, .inl t_doings)), (tA_doing, .inl (g.2.1 0, 72, .inl t_doing))]) (wr := [(tA_doings, .inl (g.2.1 0, 2, .inl t_doings)), (tA_doing, .inl (g.2.1 0, 72, .inl t_doing))]) [0, 1, 2] [3, 4] [2, 3, 4, 0, 1] 0 5 ⟨hx, hb, hml, hown, hts⟩ hK hX hP hD hS hA (m_X5_isBend l g tA tA_text tA_is tA_doings tA_doing tA_row tA_isKept tA_best tA_heats tA_orders tA_has tA_salt tA_crumbs t_length t_at_1 t_begin_2 t_told t_items t_when t_most t_mostAt t_hiss t_tests t_traced t_hasSkin t_hasBend t_text t_is (by first | assumption | omega | exact x_e8 (by assumption) (by assumption)) (by first | assumption | omega | exact x_e8 (by assumption) (by assumption)) (by first | assumption | omega | exact x_e8 (by assumption) (by assumption))) (cwV 0 hts (x_gV kw_326 kw_327 kw_328 kw_5 kw_329) rfl rfl rfl vX5_isBend ⟨Nat.le_of_ble_eq_true rfl, Nat.le_of_ble_eq_true rfl⟩) rfl rfl rfl rfl rfl rfl rfl (by decide) (fun _ => rfl) rfl rfl hl.1 rfl (Nat.le_of_ble_eq_true rfl) dX5_isItem_30 ⟨Nat.zero_le _, Nat.zero_le _⟩ (fun z_46 u H locs hw_47 hP hD hS => ?_)
        obtain ⟨t_at_41, t_begin_42, t_told_43, t_hasBend_44, t_is_45⟩ := u
        obtain ⟨⟨hw_47, b_48⟩, he⟩ := hw_47
        obtain ⟨en_30_0, en_30_1, en_30_2⟩ := he
        have en_30_0 : t_at_41 ≤ 300 := en_30_0
        have en_30_1 : t_begin_42 ≤ 300 := en_30_1
        have en_30_2 : t_at_1 ≤ t_at_41 := en_30_2
        have hP : va_P g.1 vwCl [(tA, .inr (5, [.int (nI t_length), .ref tA_text, .int (nI t_at_41), .int (nI t_begin_42), .int t_told_43, .ref tA_is, .ref tA_doings, .ref tA_doing, .int t_items, .ref tA_row, .ref tA_isKept, .int t_when, .int t_most, .int t_mostAt, .int t_hiss, .ref tA_best, .ref tA_heats, .ref tA_orders, .ref tA_has, .int (nI t_tests), .ref tA_salt, .ref tA_crumbs, .long t_traced, .int t_hasSkin, .int t_hasBend_44])), (tA_text, .inl (g.2.1 2, 300, .inl t_text)), (tA_is, .inl (g.2.1 0, 18, .inl t_is_45)), (tA_doings, .inl (g.2.1 0, 2, .inl t_doings)), (tA_doing, .inl (g.2.1 0, 72, .inl t_doing))] H := hP
        have hD : va_D A [(tA, .inr (5, [.int (nI t_length), .ref tA_text, .int (nI t_at_41), .int (nI t_begin_42), .int t_told_43, .ref tA_is, .ref tA_doings, .ref tA_doing, .int t_items, .ref tA_row, .ref tA_isKept, .int t_when, .int t_most, .int t_mostAt, .int t_hiss, .ref tA_best, .ref tA_heats, .ref tA_orders, .ref tA_has, .int (nI t_tests), .ref tA_salt, .ref tA_crumbs, .long t_traced, .int t_hasSkin, .int t_hasBend_44])), (tA_text, .inl (g.2.1 2, 300, .inl t_text)), (tA_is, .inl (g.2.1 0, 18, .inl t_is_45)), (tA_doings, .inl (g.2.1 0, 2, .inl t_doings)), (tA_doing, .inl (g.2.1 0, 72, .inl t_doing))] := hD
        have E := x_nm_eq E hw_47
        refine lv_if_eq (tgt := 51) hx hb dX5_isItem_33 (by decide) (fun c_50 => ?_) (fun c_50 => ?_)
        · have E := x_pos E c_50
          refine lv_iconst (v := 0) hx hb dX5_isItem_51 (by decide) ?_
          exact J_15 0 t_at_41 t_begin_42 t_told_43 t_hasSkin t_hasBend_44 t_is_45 t_doings t_doing E (by first | omega | assumption | rfl | exact Or.inl rfl | exact Or.inr (by omega)) (by first | omega | assumption | rfl | exact Or.inl rfl | exact Or.inr (by omega)) (by first | omega | assumption | rfl | exact Or.inl rfl | exact Or.inr (by omega)) (by first | omega | assumption | rfl | exact Or.inl rfl | exact Or.inr (by omega)) (by first | omega | assumption | rfl | exact Or.inl rfl | exact Or.inr (by omega)) (Or.inl rfl) H locs ls hP hD hS (lv_sub hl [1] rfl)
        · have E := x_neg E c_50
          refine lv_goto (tgt := 47) hx hb dX5_isItem_36 (by decide) ?_
          refine lv_iconst (v := 1) hx hb dX5_isItem_47 (by decide) ?_
          refine lv_goto (tgt := 52) hx hb dX5_isItem_48 (by decide) ?_
          exact J_15 1 t_at_41 t_begin_42 t_told_43 t_hasSkin t_hasBend_44 t_is_45 t_doings t_doing E (by first | omega | assumption | rfl | exact Or.inl rfl | exact Or.inr (by omega)) (by first | omega | assumption | rfl | exact Or.inl rfl | exact Or.inr (by omega)) (by first | omega | assumption | rfl | exact Or.inl rfl | exact Or.inr (by omega)) (by first | omega | assumption | rfl | exact Or.inl rfl | exact Or.inr (by omega)) (by first | omega | assumption | rfl | exact Or.inl rfl | exact Or.inr (by omega)) (Or.inr rfl) H locs ls hP hD hS (lv_sub hl [1] rfl)
    · have E := x_pos E c_29
      refine lv_aload_n hx hb dX5_isItem_14 rfl (lv_at hl 1 rfl) ?_
      refine x_callVi (w2 := fun u => [(tA, .inr (5, [.int (nI t_length), .ref tA_text, .int (nI u.1), .int (nI u.2.1), .int u.2.2.1, .ref tA_is, .ref tA_doings, .ref tA_doing, .int t_items, .ref tA_row, .ref tA_isKept, .int t_when, .int t_most, .int t_mostAt, .int t_hiss, .ref tA_best, .ref tA_heats, .ref tA_orders, .ref tA_has, .int (nI t_tests), .ref tA_salt, .ref tA_crumbs, .long t_traced, .int u.2.2.2.1, .int t_hasBend])), (tA_text, .inl (g.2.1 2, 300, .inl t_text)), (tA_is, .inl (g.2.1 0, 18, .inl u.2.2.2.2)), (tA_doings, .inl (g.2.1 0, 2, .inl t_doings)), (tA_doing, .inl (g.2.1 0, 72, .inl t_doing))]) (wr := [(tA_doings, .inl (g.2.1 0, 2, .inl t_doings)), (tA_doing, .inl (g.2.1 0, 72, .inl t_doing))]) [0, 1, 2] [3, 4] [2, 3, 4, 0, 1] 0 5 ⟨hx, hb, hml, hown, hts⟩ hK hX hP hD hS hA (m_X5_isSkin l g tA tA_text tA_is tA_doings tA_doing tA_row tA_isKept tA_best tA_heats tA_orders tA_has tA_salt tA_crumbs t_length t_at_1 t_begin_2 t_told t_items t_when t_most t_mostAt t_hiss t_tests t_traced t_hasSkin t_hasBend t_text t_is (by first | assumption | omega | exact x_e8 (by assumption) (by assumption)) (by first | assumption | omega | exact x_e8 (by assumption) (by assumption)) (by first | assumption | omega | exact x_e8 (by assumption) (by assumption))) (cwV 0 hts (x_gV kw_312 kw_313 kw_314 kw_5 kw_315) rfl rfl rfl vX5_isSkin ⟨Nat.le_of_ble_eq_true rfl, Nat.le_of_ble_eq_true rfl⟩) rfl rfl rfl rfl rfl rfl rfl (by decide) (fun _ => rfl) rfl rfl hl.1 rfl (Nat.le_of_ble_eq_true rfl) dX5_isItem_15 ⟨Nat.zero_le _, Nat.zero_le _⟩ (fun z_56 u H locs hw_57 hP hD hS => ?_)
      obtain ⟨t_at_51, t_begin_52, t_told_53, t_hasSkin_54, t_is_55⟩ := u
      obtain ⟨⟨hw_57, b_58⟩, he⟩ := hw_57
      obtain ⟨en_15_0, en_15_1, en_15_2⟩ := he
      have en_15_0 : t_at_51 ≤ 300 := en_15_0
      have en_15_1 : t_begin_52 ≤ 300 := en_15_1
      have en_15_2 : t_at_1 ≤ t_at_51 := en_15_2
      have hP : va_P g.1 vwCl [(tA, .inr (5, [.int (nI t_length), .ref tA_text, .int (nI t_at_51), .int (nI t_begin_52), .int t_told_53, .ref tA_is, .ref tA_doings, .ref tA_doing, .int t_items, .ref tA_row, .ref tA_isKept, .int t_when, .int t_most, .int t_mostAt, .int t_hiss, .ref tA_best, .ref tA_heats, .ref tA_orders, .ref tA_has, .int (nI t_tests), .ref tA_salt, .ref tA_crumbs, .long t_traced, .int t_hasSkin_54, .int t_hasBend])), (tA_text, .inl (g.2.1 2, 300, .inl t_text)), (tA_is, .inl (g.2.1 0, 18, .inl t_is_55)), (tA_doings, .inl (g.2.1 0, 2, .inl t_doings)), (tA_doing, .inl (g.2.1 0, 72, .inl t_doing))] H := hP
      have hD : va_D A [(tA, .inr (5, [.int (nI t_length), .ref tA_text, .int (nI t_at_51), .int (nI t_begin_52), .int t_told_53, .ref tA_is, .ref tA_doings, .ref tA_doing, .int t_items, .ref tA_row, .ref tA_isKept, .int t_when, .int t_most, .int t_mostAt, .int t_hiss, .ref tA_best, .ref tA_heats, .ref tA_orders, .ref tA_has, .int (nI t_tests), .ref tA_salt, .ref tA_crumbs, .long t_traced, .int t_hasSkin_54, .int t_hasBend])), (tA_text, .inl (g.2.1 2, 300, .inl t_text)), (tA_is, .inl (g.2.1 0, 18, .inl t_is_55)), (tA_doings, .inl (g.2.1 0, 2, .inl t_doings)), (tA_doing, .inl (g.2.1 0, 72, .inl t_doing))] := hD
      have E := x_nm_eq E hw_57
      refine lv_if_eq (tgt := 51) hx hb dX5_isItem_18 (by decide) (fun c_60 => ?_) (fun c_60 => ?_)
      · have E := x_pos E c_60
        refine lv_iconst (v := 0) hx hb dX5_isItem_51 (by decide) ?_
        exact J_15 0 t_at_51 t_begin_52 t_told_53 t_hasSkin_54 t_hasBend t_is_55 t_doings t_doing E (by first | omega | assumption | rfl | exact Or.inl rfl | exact Or.inr (by omega)) (by first | omega | assumption | rfl | exact Or.inl rfl | exact Or.inr (by omega)) (by first | omega | assumption | rfl | exact Or.inl rfl | exact Or.inr (by omega)) (by first | omega | assumption | rfl | exact Or.inl rfl | exact Or.inr (by omega)) (by first | omega | assumption | rfl | exact Or.inl rfl | exact Or.inr (by omega)) (Or.inl rfl) H locs ls hP hD hS (lv_sub hl [1] rfl)
      · have E := x_neg E c_60
        refine lv_goto (tgt := 47) hx hb dX5_isItem_21 (by decide) ?_
        refine lv_iconst (v := 1) hx hb dX5_isItem_47 (by decide) ?_
        refine lv_goto (tgt := 52) hx hb dX5_isItem_48 (by decide) ?_
        exact J_15 1 t_at_51 t_begin_52 t_told_53 t_hasSkin_54 t_hasBend t_is_55 t_doings t_doing E (by first | omega | assumption | rfl | exact Or.inl rfl | exact Or.inr (by omega)) (by first | omega | assumption | rfl | exact Or.inl rfl | exact Or.inr (by omega)) (by first | omega | assumption | rfl | exact Or.inl rfl | exact Or.inr (by omega)) (by first | omega | assumption | rfl | exact Or.inl rfl | exact Or.inr (by omega)) (by first | omega | assumption | rfl | exact Or.inl rfl | exact Or.inr (by omega)) (Or.inr rfl) H locs ls hP hD hS (lv_sub hl [1] rfl)
abbrev rX5_reads : Room := { frames := 4, cells := 0, slots := 0, locals := 92 }
theorem vX5_reads : yX5_reads.cls = RX5 ∧ yX5_reads.cls ≠ "java/lang/invoke/MethodHandle" ∧ yX5_reads.cls ≠ "java/lang/invoke/VarHandle" ∧ (parseMethodDescriptor yX5_reads.desc).map (fun d => d.parameters.length) = some 0 := by decide +kernel
abbrev wX5_reads : List Cond := Cond.code yX5_reads cX5_reads 2 (some .int) :: wsL_law
def F_X5_reads_L130 (t_length : Nat) (t_text : Nat → Int32) : Nat → Nat → Nat → Int32 → Int32 → Int32 → Int32 → (Nat → Int32) → (Nat → Int32) → (Nat → Int32) → Int32 × Nat × Nat × Int32 × Int32 × Int32 × Int32 × (Nat → Int32) × (Nat → Int32) × (Nat → Int32)
  | 0, t_at_8, t_begin_9, t_told_10, t_items_11, t_hasSkin_12, t_hasBend_13, t_is_14, t_doings_15, t_doing_16 => (0, 0, 0, 0, 0, 0, 0, (fun _ => 0), (fun _ => 0), (fun _ => 0))
  | n_17 + 1, t_at_8, t_begin_9, t_told_10, t_items_11, t_hasSkin_12, t_hasBend_13, t_is_14, t_doings_15, t_doing_16 => if t_length ≤ t_at_8 then ((-9), t_at_8, t_begin_9, t_told_10, t_items_11, t_hasSkin_12, t_hasBend_13, t_is_14, t_doings_15, t_doing_16) else x_nm (F_X5_isItem t_length t_text t_at_8 t_told_10 t_is_14 t_doings_15 t_doing_16 t_hasSkin_12 t_hasBend_13) fun u_30 => if u_30.1 = 0 then x_nm (α := Int32) (if t_length ≤ u_30.2.2.1 then nI t_length else nI u_30.2.2.1) fun u_37 => (u_37, u_30.2.1, u_30.2.2.1, u_30.2.2.2.1, t_items_11, u_30.2.2.2.2.1, u_30.2.2.2.2.2.1, u_30.2.2.2.2.2.2.1, u_30.2.2.2.2.2.2.2.1, u_30.2.2.2.2.2.2.2.2) else x_nm (F_X5_blanks t_length t_text u_30.2.1) fun u_35 => F_X5_reads_L130 t_length t_text n_17 u_35.1 u_35.2 u_30.2.2.2.1 (t_items_11 + 1) u_30.2.2.2.2.1 u_30.2.2.2.2.2.1 u_30.2.2.2.2.2.2.1 u_30.2.2.2.2.2.2.2.1 u_30.2.2.2.2.2.2.2.2
def F_X5_reads_L29 : Nat → Nat → (Nat → Int32) → (Nat → Int32)
  | 0, k1_39, t_is_40 => t_is_40
  | n_41 + 1, k1_39, t_is_40 => if 9 ≤ k1_39 then t_is_40 else x_nm (α := Int32) (if k1_39 = 0 then 3 else if k1_39 = 1 then 200 else if k1_39 = 2 then 10 else if k1_39 = 3 then 300 else if k1_39 = 4 then 300 else if k1_39 = 5 then 40 else if k1_39 = 6 then 2 else if k1_39 = 7 then 4 else 0) fun u_44 => x_nm (upd t_is_40 (9 + k1_39) u_44) fun t_is_45 => F_X5_reads_L29 n_41 (k1_39 + 1) t_is_45
def F_X5_reads (t_length : Nat) (t_text : Nat → Int32) (t_told : Int32) (t_is : Nat → Int32) (t_doings : Nat → Int32) (t_doing : Nat → Int32) : Int32 × Nat × Nat × Int32 × Int32 × Int32 × Int32 × (Nat → Int32) × (Nat → Int32) × (Nat → Int32) :=
  x_nm (upd t_doings 1 0) fun t_doings_1 => x_nm (α := (Nat → Int32)) (F_X5_reads_L29 (9 + 1) 0 t_is) fun u_3 => x_nm (F_X5_blanks t_length t_text 0) fun u_7 => F_X5_reads_L130 t_length t_text 301 u_7.1 u_7.2 t_told 0 0 0 u_3 t_doings_1 t_doing
set_option maxHeartbeats 4000000 in
set_option maxRecDepth 100000 in
theorem m_X5_reads (l : Launch) (g : x_G) (tA tA_text tA_is tA_doings tA_doing tA_row tA_isKept tA_best tA_heats tA_orders tA_has tA_salt tA_crumbs : Nat) (t_length : Nat) (t_at : Nat) (t_begin : Nat) (t_told : Int32) (t_items : Int32) (t_when : Int32) (t_most : Int32) (t_mostAt : Int32) (t_hiss : Int32) (t_tests : Nat) (t_traced : Int64) (t_hasSkin : Int32) (t_hasBend : Int32) (t_text : Nat → Int32) (t_is : Nat → Int32) (t_doings : Nat → Int32) (t_doing : Nat → Int32) (h_0 : t_length ≤ 300) : x_MetI l yX5_reads wX5_reads rX5_reads g [.ref tA] [(tA, .inr (5, [.int (nI t_length), .ref tA_text, .int (nI t_at), .int (nI t_begin), .int t_told, .ref tA_is, .ref tA_doings, .ref tA_doing, .int t_items, .ref tA_row, .ref tA_isKept, .int t_when, .int t_most, .int t_mostAt, .int t_hiss, .ref tA_best, .ref tA_heats, .ref tA_orders, .ref tA_has, .int (nI t_tests), .ref tA_salt, .ref tA_crumbs, .long t_traced, .int t_hasSkin, .int t_hasBend])), (tA_text, .inl (g.2.1 2, 300, .inl t_text)), (tA_is, .inl (g.2.1 0, 18, .inl t_is)), (tA_doings, .inl (g.2.1 0, 2, .inl t_doings)), (tA_doing, .inl (g.2.1 0, 72, .inl t_doing))] (fun (r : Int32) (u : Nat × Nat × Int32 × Int32 × Int32 × Int32 × (Nat → Int32) × (Nat → Int32) × (Nat → Int32)) => (r, u) = F_X5_reads t_length t_text t_told t_is t_doings t_doing) (fun u => [(tA, .inr (5, [.int (nI t_length), .ref tA_text, .int (nI u.1), .int (nI u.2.1), .int u.2.2.1, .ref tA_is, .ref tA_doings, .ref tA_doing, .int u.2.2.2.1, .ref tA_row, .ref tA_isKept, .int t_when, .int t_most, .int t_mostAt, .int t_hiss, .ref tA_best, .ref tA_heats, .ref tA_orders, .ref tA_has, .int (nI t_tests), .ref tA_salt, .ref tA_crumbs, .long t_traced, .int u.2.2.2.2.1, .int u.2.2.2.2.2.1])), (tA_text, .inl (g.2.1 2, 300, .inl t_text)), (tA_is, .inl (g.2.1 0, 18, .inl u.2.2.2.2.2.2.1)), (tA_doings, .inl (g.2.1 0, 2, .inl u.2.2.2.2.2.2.2.1)), (tA_doing, .inl (g.2.1 0, 72, .inl u.2.2.2.2.2.2.2.2))]) := by
  refine x_startI (cc := cX5_reads) (maxL := 2) (by decide) rfl (Nat.le_of_ble_eq_true rfl) ?_
  intro p e s m args below meth c Q A ls H locs hx hb hml hown hts hK hX hP hD hS hA hl RET
  have hown : s.vm.findClass RX5 = some m.cls := hown
  have hl : lv_has ls 2 [(0, .ref tA)] := hl
  obtain ⟨o_0, hO⟩ : ∃ z, z = F_X5_reads t_length t_text t_told t_is t_doings t_doing := ⟨_, rfl⟩
  have E := hO
  rw [F_X5_reads.eq_1] at E
  refine lv_aload_n hx hb dX5_reads_0 rfl (lv_at hl 0 rfl) ?_
  refine lv_iconst (v := 0) hx hb dX5_reads_1 (by decide) ?_
  refine va_put (ci := 5) (v := .int 0) (ty := .int) (C := RX5) (T := TX5) (N := 25) hx hb hts inlX5 tyX5 tyX5_ok nmX5 hown hK.1 hP hD hS 0 rfl rfl 2 (by decide) (hts _ kw_286) (fun _ h9 => h9) rfl (tyX5_ok 2 (by decide)) rfl rfl (Nat.le_of_ble_eq_true rfl) dX5_reads_2 (fun H locs hP hD hS => ?_)
  have hP : va_P g.1 vwCl [(tA, .inr (5, [.int (nI t_length), .ref tA_text, .int 0, .int (nI t_begin), .int t_told, .ref tA_is, .ref tA_doings, .ref tA_doing, .int t_items, .ref tA_row, .ref tA_isKept, .int t_when, .int t_most, .int t_mostAt, .int t_hiss, .ref tA_best, .ref tA_heats, .ref tA_orders, .ref tA_has, .int (nI t_tests), .ref tA_salt, .ref tA_crumbs, .long t_traced, .int t_hasSkin, .int t_hasBend])), (tA_text, .inl (g.2.1 2, 300, .inl t_text)), (tA_is, .inl (g.2.1 0, 18, .inl t_is)), (tA_doings, .inl (g.2.1 0, 2, .inl t_doings)), (tA_doing, .inl (g.2.1 0, 72, .inl t_doing))] H := hP
  have hD : va_D A [(tA, .inr (5, [.int (nI t_length), .ref tA_text, .int 0, .int (nI t_begin), .int t_told, .ref tA_is, .ref tA_doings, .ref tA_doing, .int t_items, .ref tA_row, .ref tA_isKept, .int t_when, .int t_most, .int t_mostAt, .int t_hiss, .ref tA_best, .ref tA_heats, .ref tA_orders, .ref tA_has, .int (nI t_tests), .ref tA_salt, .ref tA_crumbs, .long t_traced, .int t_hasSkin, .int t_hasBend])), (tA_text, .inl (g.2.1 2, 300, .inl t_text)), (tA_is, .inl (g.2.1 0, 18, .inl t_is)), (tA_doings, .inl (g.2.1 0, 2, .inl t_doings)), (tA_doing, .inl (g.2.1 0, 72, .inl t_doing))] := hD
  refine lv_aload_n hx hb dX5_reads_5 rfl (lv_at hl 0 rfl) ?_
  refine lv_iconst (v := 0) hx hb dX5_reads_6 (by decide) ?_
  refine va_put (ci := 5) (v := .int 0) (ty := .int) (C := RX5) (T := TX5) (N := 25) hx hb hts inlX5 tyX5 tyX5_ok nmX5 hown hK.1 hP hD hS 0 rfl rfl 8 (by decide) (hts _ kw_281) (fun _ h9 => h9) rfl (tyX5_ok 8 (by decide)) rfl rfl (Nat.le_of_ble_eq_true rfl) dX5_reads_7 (fun H locs hP hD hS => ?_)
  have hP : va_P g.1 vwCl [(tA, .inr (5, [.int (nI t_length), .ref tA_text, .int 0, .int (nI t_begin), .int t_told, .ref tA_is, .ref tA_doings, .ref tA_doing, .int 0, .ref tA_row, .ref tA_isKept, .int t_when, .int t_most, .int t_mostAt, .int t_hiss, .ref tA_best, .ref tA_heats, .ref tA_orders, .ref tA_has, .int (nI t_tests), .ref tA_salt, .ref tA_crumbs, .long t_traced, .int t_hasSkin, .int t_hasBend])), (tA_text, .inl (g.2.1 2, 300, .inl t_text)), (tA_is, .inl (g.2.1 0, 18, .inl t_is)), (tA_doings, .inl (g.2.1 0, 2, .inl t_doings)), (tA_doing, .inl (g.2.1 0, 72, .inl t_doing))] H := hP
  have hD : va_D A [(tA, .inr (5, [.int (nI t_length), .ref tA_text, .int 0, .int (nI t_begin), .int t_told, .ref tA_is, .ref tA_doings, .ref tA_doing, .int 0, .ref tA_row, .ref tA_isKept, .int t_when, .int t_most, .int t_mostAt, .int t_hiss, .ref tA_best, .ref tA_heats, .ref tA_orders, .ref tA_has, .int (nI t_tests), .ref tA_salt, .ref tA_crumbs, .long t_traced, .int t_hasSkin, .int t_hasBend])), (tA_text, .inl (g.2.1 2, 300, .inl t_text)), (tA_is, .inl (g.2.1 0, 18, .inl t_is)), (tA_doings, .inl (g.2.1 0, 2, .inl t_doings)), (tA_doing, .inl (g.2.1 0, 72, .inl t_doing))] := hD
  refine lv_aload_n hx hb dX5_reads_10 rfl (lv_at hl 0 rfl) ?_
  refine va_get (ci := 5) (v := .ref tA_doings) (C := RX5) (T := TX5) (N := 25) hx hb hts inlX5 hown hK.1 hP 0 rfl rfl 6 (by decide) (hts _ kw_95) (fun _ h9 => h9) rfl dX5_reads_11 ?_
  refine lv_iconst (v := 1) hx hb dX5_reads_14 (by decide) ?_
  refine lv_iconst (v := 0) hx hb dX5_reads_15 (by decide) ?_
  refine x_iastN hx hb hK hP hD hS 3 1 rfl (by omega) (by decide) dX5_reads_16 (fun t_doings_1 H locs hf hP hD hS => ?_)
  have hP : va_P g.1 vwCl [(tA, .inr (5, [.int (nI t_length), .ref tA_text, .int 0, .int (nI t_begin), .int t_told, .ref tA_is, .ref tA_doings, .ref tA_doing, .int 0, .ref tA_row, .ref tA_isKept, .int t_when, .int t_most, .int t_mostAt, .int t_hiss, .ref tA_best, .ref tA_heats, .ref tA_orders, .ref tA_has, .int (nI t_tests), .ref tA_salt, .ref tA_crumbs, .long t_traced, .int t_hasSkin, .int t_hasBend])), (tA_text, .inl (g.2.1 2, 300, .inl t_text)), (tA_is, .inl (g.2.1 0, 18, .inl t_is)), (tA_doings, .inl (g.2.1 0, 2, .inl t_doings_1)), (tA_doing, .inl (g.2.1 0, 72, .inl t_doing))] H := hP
  have hD : va_D A [(tA, .inr (5, [.int (nI t_length), .ref tA_text, .int 0, .int (nI t_begin), .int t_told, .ref tA_is, .ref tA_doings, .ref tA_doing, .int 0, .ref tA_row, .ref tA_isKept, .int t_when, .int t_most, .int t_mostAt, .int t_hiss, .ref tA_best, .ref tA_heats, .ref tA_orders, .ref tA_has, .int (nI t_tests), .ref tA_salt, .ref tA_crumbs, .long t_traced, .int t_hasSkin, .int t_hasBend])), (tA_text, .inl (g.2.1 2, 300, .inl t_text)), (tA_is, .inl (g.2.1 0, 18, .inl t_is)), (tA_doings, .inl (g.2.1 0, 2, .inl t_doings_1)), (tA_doing, .inl (g.2.1 0, 72, .inl t_doing))] := hD
  have E := x_nm_eq E hf
  have d1 : (t_doings_1 1).toNatClampNeg ≤ 12 := by rw [hf, pk_us]; decide
  have d2 : t_doings_1 1 = nI (t_doings_1 1).toNatClampNeg := by rw [hf, pk_us]; decide
  refine lv_aload_n hx hb dX5_reads_17 rfl (lv_at hl 0 rfl) ?_
  refine lv_iconst (v := 0) hx hb dX5_reads_18 (by decide) ?_
  refine va_put (ci := 5) (v := .int 0) (ty := .boolean) (C := RX5) (T := TX5) (N := 25) hx hb hts inlX5 tyX5 tyX5_ok nmX5 hown hK.1 hP hD hS 0 rfl rfl 23 (by decide) (hts _ kw_287) (fun _ h9 => h9) rfl (tyX5_ok 23 (by decide)) (x_nar (Or.inl rfl)) rfl (Nat.le_of_ble_eq_true rfl) dX5_reads_19 (fun H locs hP hD hS => ?_)
  have hP : va_P g.1 vwCl [(tA, .inr (5, [.int (nI t_length), .ref tA_text, .int 0, .int (nI t_begin), .int t_told, .ref tA_is, .ref tA_doings, .ref tA_doing, .int 0, .ref tA_row, .ref tA_isKept, .int t_when, .int t_most, .int t_mostAt, .int t_hiss, .ref tA_best, .ref tA_heats, .ref tA_orders, .ref tA_has, .int (nI t_tests), .ref tA_salt, .ref tA_crumbs, .long t_traced, .int 0, .int t_hasBend])), (tA_text, .inl (g.2.1 2, 300, .inl t_text)), (tA_is, .inl (g.2.1 0, 18, .inl t_is)), (tA_doings, .inl (g.2.1 0, 2, .inl t_doings_1)), (tA_doing, .inl (g.2.1 0, 72, .inl t_doing))] H := hP
  have hD : va_D A [(tA, .inr (5, [.int (nI t_length), .ref tA_text, .int 0, .int (nI t_begin), .int t_told, .ref tA_is, .ref tA_doings, .ref tA_doing, .int 0, .ref tA_row, .ref tA_isKept, .int t_when, .int t_most, .int t_mostAt, .int t_hiss, .ref tA_best, .ref tA_heats, .ref tA_orders, .ref tA_has, .int (nI t_tests), .ref tA_salt, .ref tA_crumbs, .long t_traced, .int 0, .int t_hasBend])), (tA_text, .inl (g.2.1 2, 300, .inl t_text)), (tA_is, .inl (g.2.1 0, 18, .inl t_is)), (tA_doings, .inl (g.2.1 0, 2, .inl t_doings_1)), (tA_doing, .inl (g.2.1 0, 72, .inl t_doing))] := hD
  refine lv_aload_n hx hb dX5_reads_22 rfl (lv_at hl 0 rfl) ?_
  refine lv_iconst (v := 0) hx hb dX5_reads_23 (by decide) ?_
  refine va_put (ci := 5) (v := .int 0) (ty := .boolean) (C := RX5) (T := TX5) (N := 25) hx hb hts inlX5 tyX5 tyX5_ok nmX5 hown hK.1 hP hD hS 0 rfl rfl 24 (by decide) (hts _ kw_288) (fun _ h9 => h9) rfl (tyX5_ok 24 (by decide)) (x_nar (Or.inl rfl)) rfl (Nat.le_of_ble_eq_true rfl) dX5_reads_24 (fun H locs hP hD hS => ?_)
  have hP : va_P g.1 vwCl [(tA, .inr (5, [.int (nI t_length), .ref tA_text, .int 0, .int (nI t_begin), .int t_told, .ref tA_is, .ref tA_doings, .ref tA_doing, .int 0, .ref tA_row, .ref tA_isKept, .int t_when, .int t_most, .int t_mostAt, .int t_hiss, .ref tA_best, .ref tA_heats, .ref tA_orders, .ref tA_has, .int (nI t_tests), .ref tA_salt, .ref tA_crumbs, .long t_traced, .int 0, .int 0])), (tA_text, .inl (g.2.1 2, 300, .inl t_text)), (tA_is, .inl (g.2.1 0, 18, .inl t_is)), (tA_doings, .inl (g.2.1 0, 2, .inl t_doings_1)), (tA_doing, .inl (g.2.1 0, 72, .inl t_doing))] H := hP
  have hD : va_D A [(tA, .inr (5, [.int (nI t_length), .ref tA_text, .int 0, .int (nI t_begin), .int t_told, .ref tA_is, .ref tA_doings, .ref tA_doing, .int 0, .ref tA_row, .ref tA_isKept, .int t_when, .int t_most, .int t_mostAt, .int t_hiss, .ref tA_best, .ref tA_heats, .ref tA_orders, .ref tA_has, .int (nI t_tests), .ref tA_salt, .ref tA_crumbs, .long t_traced, .int 0, .int 0])), (tA_text, .inl (g.2.1 2, 300, .inl t_text)), (tA_is, .inl (g.2.1 0, 18, .inl t_is)), (tA_doings, .inl (g.2.1 0, 2, .inl t_doings_1)), (tA_doing, .inl (g.2.1 0, 72, .inl t_doing))] := hD
  refine lv_iconst (v := 0) hx hb dX5_reads_27 (by decide) ?_
  refine lv_istore_n (lv' := [(1, .int 0), (0, .ref tA)]) hx hb dX5_reads_28 rfl hl (by decide) rfl (fun ls hl => ?_)
  obtain ⟨o_3, E_3, E⟩ := x_nm_ex E
  have J_3 : ∀ (t_is_2 : Nat → Int32), o_3 = t_is_2 → ∀ (H : Heap) (locs : List Loc) (ls : Array Slot), va_P g.1 vwCl [(tA, .inr (5, [.int (nI t_length), .ref tA_text, .int 0, .int (nI t_begin), .int t_told, .ref tA_is, .ref tA_doings, .ref tA_doing, .int 0, .ref tA_row, .ref tA_isKept, .int t_when, .int t_most, .int t_mostAt, .int t_hiss, .ref tA_best, .ref tA_heats, .ref tA_orders, .ref tA_has, .int (nI t_tests), .ref tA_salt, .ref tA_crumbs, .long t_traced, .int 0, .int 0])), (tA_text, .inl (g.2.1 2, 300, .inl t_text)), (tA_is, .inl (g.2.1 0, 18, .inl t_is_2)), (tA_doings, .inl (g.2.1 0, 2, .inl t_doings_1)), (tA_doing, .inl (g.2.1 0, 72, .inl t_doing))] H → va_D A [(tA, .inr (5, [.int (nI t_length), .ref tA_text, .int 0, .int (nI t_begin), .int t_told, .ref tA_is, .ref tA_doings, .ref tA_doing, .int 0, .ref tA_row, .ref tA_isKept, .int t_when, .int t_most, .int t_mostAt, .int t_hiss, .ref tA_best, .ref tA_heats, .ref tA_orders, .ref tA_has, .int (nI t_tests), .ref tA_salt, .ref tA_crumbs, .long t_traced, .int 0, .int 0])), (tA_text, .inl (g.2.1 2, 300, .inl t_text)), (tA_is, .inl (g.2.1 0, 18, .inl t_is_2)), (tA_doings, .inl (g.2.1 0, 2, .inl t_doings_1)), (tA_doing, .inl (g.2.1 0, 72, .inl t_doing))] → va_S A s.heap H locs → lv_has ls 2 [(0, .ref tA)] → W p l e rX5_reads s m args below meth c H locs 0 0 Q (F0 m 126 ls []) := by
    intro t_is_2 hE  H locs ls hP hD hS hl
    try rw [hE] at E
    refine lv_aload_n hx hb dX5_reads_126 rfl (lv_at hl 0 rfl) ?_
    refine x_callVv (w2 := fun u => [(tA, .inr (5, [.int (nI t_length), .ref tA_text, .int (nI u.1), .int (nI u.2), .int t_told, .ref tA_is, .ref tA_doings, .ref tA_doing, .int 0, .ref tA_row, .ref tA_isKept, .int t_when, .int t_most, .int t_mostAt, .int t_hiss, .ref tA_best, .ref tA_heats, .ref tA_orders, .ref tA_has, .int (nI t_tests), .ref tA_salt, .ref tA_crumbs, .long t_traced, .int 0, .int 0])), (tA_text, .inl (g.2.1 2, 300, .inl t_text)), (tA_is, .inl (g.2.1 0, 18, .inl t_is_2)), (tA_doings, .inl (g.2.1 0, 2, .inl t_doings_1)), (tA_doing, .inl (g.2.1 0, 72, .inl t_doing))]) (wr := [(tA_is, .inl (g.2.1 0, 18, .inl t_is_2)), (tA_doings, .inl (g.2.1 0, 2, .inl t_doings_1)), (tA_doing, .inl (g.2.1 0, 72, .inl t_doing))]) [0, 1] [2, 3, 4] [3, 4, 0, 1, 2] 0 5 ⟨hx, hb, hml, hown, hts⟩ hK hX hP hD hS hA (m_X5_blanks l g tA tA_text tA_is tA_doings tA_doing tA_row tA_isKept tA_best tA_heats tA_orders tA_has tA_salt tA_crumbs t_length 0 t_begin t_told 0 t_when t_most t_mostAt t_hiss t_tests t_traced 0 0 t_text (by first | assumption | omega | exact x_e8 (by assumption) (by assumption)) (by first | assumption | omega | exact x_e8 (by assumption) (by assumption))) (cwV 0 hts (x_gV kw_290 kw_291 kw_292 kw_5 kw_293) rfl rfl rfl vX5_blanks ⟨Nat.le_of_ble_eq_true rfl, Nat.le_of_ble_eq_true rfl⟩) rfl rfl rfl rfl rfl rfl rfl (by decide) (fun _ => rfl) rfl rfl hl.1 rfl (Nat.le_of_ble_eq_true rfl) dX5_reads_127 ⟨Nat.zero_le _, Nat.zero_le _⟩ (fun u H locs hw_6 hP hD hS => ?_)
    obtain ⟨t_at_4, t_begin_5⟩ := u
    obtain ⟨hw_6, en_127_0, en_127_1, en_127_2⟩ := hw_6
    have en_127_0 : t_at_4 ≤ 300 := en_127_0
    have en_127_1 : t_begin_5 = t_at_4 := en_127_1
    have en_127_2 : 0 ≤ t_at_4 := en_127_2
    have hP : va_P g.1 vwCl [(tA, .inr (5, [.int (nI t_length), .ref tA_text, .int (nI t_at_4), .int (nI t_begin_5), .int t_told, .ref tA_is, .ref tA_doings, .ref tA_doing, .int 0, .ref tA_row, .ref tA_isKept, .int t_when, .int t_most, .int t_mostAt, .int t_hiss, .ref tA_best, .ref tA_heats, .ref tA_orders, .ref tA_has, .int (nI t_tests), .ref tA_salt, .ref tA_crumbs, .long t_traced, .int 0, .int 0])), (tA_text, .inl (g.2.1 2, 300, .inl t_text)), (tA_is, .inl (g.2.1 0, 18, .inl t_is_2)), (tA_doings, .inl (g.2.1 0, 2, .inl t_doings_1)), (tA_doing, .inl (g.2.1 0, 72, .inl t_doing))] H := hP
    have hD : va_D A [(tA, .inr (5, [.int (nI t_length), .ref tA_text, .int (nI t_at_4), .int (nI t_begin_5), .int t_told, .ref tA_is, .ref tA_doings, .ref tA_doing, .int 0, .ref tA_row, .ref tA_isKept, .int t_when, .int t_most, .int t_mostAt, .int t_hiss, .ref tA_best, .ref tA_heats, .ref tA_orders, .ref tA_has, .int (nI t_tests), .ref tA_salt, .ref tA_crumbs, .long t_traced, .int 0, .int 0])), (tA_text, .inl (g.2.1 2, 300, .inl t_text)), (tA_is, .inl (g.2.1 0, 18, .inl t_is_2)), (tA_doings, .inl (g.2.1 0, 2, .inl t_doings_1)), (tA_doing, .inl (g.2.1 0, 72, .inl t_doing))] := hD
    have E := x_nm_eq E hw_6
    have L_17 : ∀ (n_17 : Nat) (t_at_8 : Nat) (t_begin_9 : Nat) (t_told_10 : Int32) (t_items_11 : Int32) (t_hasSkin_12 : Int32) (t_hasBend_13 : Int32) (t_is_14 : Nat → Int32) (t_doings_15 : Nat → Int32) (t_doing_16 : Nat → Int32), (t_at_8 ≤ 300) → (t_begin_9 ≤ 300) → ((t_doings_15 1).toNatClampNeg ≤ 12) → (t_doings_15 1 = nI (t_doings_15 1).toNatClampNeg) → ((300 - t_at_8) < n_17) → o_0 = F_X5_reads_L130 t_length t_text n_17 t_at_8 t_begin_9 t_told_10 t_items_11 t_hasSkin_12 t_hasBend_13 t_is_14 t_doings_15 t_doing_16 → ∀ (H : Heap) (locs : List Loc) (ls : Array Slot), va_P g.1 vwCl [(tA, .inr (5, [.int (nI t_length), .ref tA_text, .int (nI t_at_8), .int (nI t_begin_9), .int t_told_10, .ref tA_is, .ref tA_doings, .ref tA_doing, .int t_items_11, .ref tA_row, .ref tA_isKept, .int t_when, .int t_most, .int t_mostAt, .int t_hiss, .ref tA_best, .ref tA_heats, .ref tA_orders, .ref tA_has, .int (nI t_tests), .ref tA_salt, .ref tA_crumbs, .long t_traced, .int t_hasSkin_12, .int t_hasBend_13])), (tA_text, .inl (g.2.1 2, 300, .inl t_text)), (tA_is, .inl (g.2.1 0, 18, .inl t_is_14)), (tA_doings, .inl (g.2.1 0, 2, .inl t_doings_15)), (tA_doing, .inl (g.2.1 0, 72, .inl t_doing_16))] H → va_D A [(tA, .inr (5, [.int (nI t_length), .ref tA_text, .int (nI t_at_8), .int (nI t_begin_9), .int t_told_10, .ref tA_is, .ref tA_doings, .ref tA_doing, .int t_items_11, .ref tA_row, .ref tA_isKept, .int t_when, .int t_most, .int t_mostAt, .int t_hiss, .ref tA_best, .ref tA_heats, .ref tA_orders, .ref tA_has, .int (nI t_tests), .ref tA_salt, .ref tA_crumbs, .long t_traced, .int t_hasSkin_12, .int t_hasBend_13])), (tA_text, .inl (g.2.1 2, 300, .inl t_text)), (tA_is, .inl (g.2.1 0, 18, .inl t_is_14)), (tA_doings, .inl (g.2.1 0, 2, .inl t_doings_15)), (tA_doing, .inl (g.2.1 0, 72, .inl t_doing_16))] → va_S A s.heap H locs → lv_has ls 2 [(0, .ref tA)] → W p l e rX5_reads s m args below meth c H locs 0 0 Q (F0 m 130 ls []) := by
      intro n_17
      induction n_17 with
      | zero => intro t_at_8 t_begin_9 t_told_10 t_items_11 t_hasSkin_12 t_hasBend_13 t_is_14 t_doings_15 t_doing_16 i_17_0 i_17_1 i_17_2 i_17_3 i_17_4; exact absurd i_17_4 (by omega)
      | succ n_17 ih_17 =>
        intro t_at_8 t_begin_9 t_told_10 t_items_11 t_hasSkin_12 t_hasBend_13 t_is_14 t_doings_15 t_doing_16 i_17_0 i_17_1 i_17_2 i_17_3 i_17_4 E H locs ls hP hD hS hl
        rw [F_X5_reads_L130.eq_2] at E
        refine lv_aload_n hx hb dX5_reads_130 rfl (lv_at hl 0 rfl) ?_
        refine va_get (ci := 5) (v := .int (nI t_at_8)) (C := RX5) (T := TX5) (N := 25) hx hb hts inlX5 hown hK.1 hP 0 rfl rfl 2 (by decide) (hts _ kw_286) (fun _ h9 => h9) rfl dX5_reads_131 ?_
        refine lv_aload_n hx hb dX5_reads_134 rfl (lv_at hl 0 rfl) ?_
        refine va_get (ci := 5) (v := .int (nI t_length)) (C := RX5) (T := TX5) (N := 25) hx hb hts inlX5 hown hK.1 hP 0 rfl rfl 0 (by decide) (hts _ kw_128) (fun _ h9 => h9) rfl dX5_reads_135 ?_
        refine x_icmp_ge (a := t_at_8) (b := t_length) (tgt := 188) hx hb (by omega) (by omega) dX5_reads_138 (by decide) (fun c_18 => ?_) (fun c_18 => ?_)
        · have E := x_pos E c_18
          refine lv_bipush (v := (-9)) hx hb dX5_reads_188 (by decide) ?_
          exact RET (-9) (t_at_8, t_begin_9, t_told_10, t_items_11, t_hasSkin_12, t_hasBend_13, t_is_14, t_doings_15, t_doing_16) H locs _ _ (E.symm.trans hO) rfl hP hD hS dX5_reads_190
        · have E := x_neg E c_18
          refine lv_aload_n hx hb dX5_reads_141 rfl (lv_at hl 0 rfl) ?_
          refine x_callVi (w2 := fun u => [(tA, .inr (5, [.int (nI t_length), .ref tA_text, .int (nI u.1), .int (nI u.2.1), .int u.2.2.1, .ref tA_is, .ref tA_doings, .ref tA_doing, .int t_items_11, .ref tA_row, .ref tA_isKept, .int t_when, .int t_most, .int t_mostAt, .int t_hiss, .ref tA_best, .ref tA_heats, .ref tA_orders, .ref tA_has, .int (nI t_tests), .ref tA_salt, .ref tA_crumbs, .long t_traced, .int u.2.2.2.1, .int u.2.2.2.2.1])), (tA_text, .inl (g.2.1 2, 300, .inl t_text)), (tA_is, .inl (g.2.1 0, 18, .inl u.2.2.2.2.2.1)), (tA_doings, .inl (g.2.1 0, 2, .inl u.2.2.2.2.2.2.1)), (tA_doing, .inl (g.2.1 0, 72, .inl u.2.2.2.2.2.2.2))]) (wr := []) [0, 1, 2, 3, 4] [] [0, 1, 2, 3, 4] 0 5 ⟨hx, hb, hml, hown, hts⟩ hK hX hP hD hS hA (m_X5_isItem l g tA tA_text tA_is tA_doings tA_doing tA_row tA_isKept tA_best tA_heats tA_orders tA_has tA_salt tA_crumbs t_length t_at_8 t_begin_9 t_told_10 t_items_11 t_when t_most t_mostAt t_hiss t_tests t_traced t_hasSkin_12 t_hasBend_13 t_text t_is_14 t_doings_15 t_doing_16 (by first | assumption | omega | exact x_e8 (by assumption) (by assumption)) (by first | assumption | omega | exact x_e8 (by assumption) (by assumption)) (by first | assumption | omega | exact x_e8 (by assumption) (by assumption)) (by first | assumption | omega | exact x_e8 (by assumption) (by assumption)) (by first | assumption | omega | exact x_e8 (by assumption) (by assumption))) (cwV 0 hts (x_gV kw_294 kw_295 kw_296 kw_5 kw_297) rfl rfl rfl vX5_isItem ⟨Nat.le_of_ble_eq_true rfl, Nat.le_of_ble_eq_true rfl⟩) rfl rfl rfl rfl rfl rfl rfl (by decide) (fun _ => rfl) rfl rfl hl.1 rfl (Nat.le_of_ble_eq_true rfl) dX5_reads_142 ⟨Nat.zero_le _, Nat.zero_le _⟩ (fun z_27 u H locs hw_28 hP hD hS => ?_)
          obtain ⟨t_at_19, t_begin_20, t_told_21, t_hasSkin_22, t_hasBend_23, t_is_24, t_doings_25, t_doing_26⟩ := u
          obtain ⟨⟨hw_28, b_29⟩, he⟩ := hw_28
          obtain ⟨en_142_0, en_142_1, en_142_2, en_142_3, en_142_4, en_142_5⟩ := he
          have en_142_0 : t_at_19 ≤ 301 := en_142_0
          have en_142_1 : t_begin_20 ≤ 300 := en_142_1
          have en_142_2 : (z_27 = 0 ∨ t_at_19 ≤ 300) := en_142_2
          have en_142_3 : (z_27 = 0 ∨ t_at_8 < t_at_19) := en_142_3
          have en_142_4 : (t_doings_25 1).toNatClampNeg ≤ 12 := en_142_4
          have en_142_5 : t_doings_25 1 = nI (t_doings_25 1).toNatClampNeg := en_142_5
          have hP : va_P g.1 vwCl [(tA, .inr (5, [.int (nI t_length), .ref tA_text, .int (nI t_at_19), .int (nI t_begin_20), .int t_told_21, .ref tA_is, .ref tA_doings, .ref tA_doing, .int t_items_11, .ref tA_row, .ref tA_isKept, .int t_when, .int t_most, .int t_mostAt, .int t_hiss, .ref tA_best, .ref tA_heats, .ref tA_orders, .ref tA_has, .int (nI t_tests), .ref tA_salt, .ref tA_crumbs, .long t_traced, .int t_hasSkin_22, .int t_hasBend_23])), (tA_text, .inl (g.2.1 2, 300, .inl t_text)), (tA_is, .inl (g.2.1 0, 18, .inl t_is_24)), (tA_doings, .inl (g.2.1 0, 2, .inl t_doings_25)), (tA_doing, .inl (g.2.1 0, 72, .inl t_doing_26))] H := hP
          have hD : va_D A [(tA, .inr (5, [.int (nI t_length), .ref tA_text, .int (nI t_at_19), .int (nI t_begin_20), .int t_told_21, .ref tA_is, .ref tA_doings, .ref tA_doing, .int t_items_11, .ref tA_row, .ref tA_isKept, .int t_when, .int t_most, .int t_mostAt, .int t_hiss, .ref tA_best, .ref tA_heats, .ref tA_orders, .ref tA_has, .int (nI t_tests), .ref tA_salt, .ref tA_crumbs, .long t_traced, .int t_hasSkin_22, .int t_hasBend_23])), (tA_text, .inl (g.2.1 2, 300, .inl t_text)), (tA_is, .inl (g.2.1 0, 18, .inl t_is_24)), (tA_doings, .inl (g.2.1 0, 2, .inl t_doings_25)), (tA_doing, .inl (g.2.1 0, 72, .inl t_doing_26))] := hD
          have E := x_nm_eq E hw_28
          refine x_if_neI (tgt := 171) hx hb dX5_reads_145 (by decide) (fun c_31 => ?_) (fun c_31 => ?_)
          · have E := x_neg E c_31
            have hn := Or.resolve_left en_142_2 c_31
            have hn2 := Or.resolve_left en_142_3 c_31
            refine lv_aload_n hx hb dX5_reads_171 rfl (lv_at hl 0 rfl) ?_
            refine lv_dup hx hb dX5_reads_172 rfl ?_
            refine va_get (ci := 5) (v := .int t_items_11) (C := RX5) (T := TX5) (N := 25) hx hb hts inlX5 hown hK.1 hP 0 rfl rfl 8 (by decide) (hts _ kw_281) (fun _ h9 => h9) rfl dX5_reads_173 ?_
            refine lv_iconst (v := 1) hx hb dX5_reads_176 (by decide) ?_
            refine lv_iadd hx hb dX5_reads_177 ?_
            refine va_put (ci := 5) (v := .int (t_items_11 + 1)) (ty := .int) (C := RX5) (T := TX5) (N := 25) hx hb hts inlX5 tyX5 tyX5_ok nmX5 hown hK.1 hP hD hS 0 rfl rfl 8 (by decide) (hts _ kw_281) (fun _ h9 => h9) rfl (tyX5_ok 8 (by decide)) rfl rfl (Nat.le_of_ble_eq_true rfl) dX5_reads_178 (fun H locs hP hD hS => ?_)
            have hP : va_P g.1 vwCl [(tA, .inr (5, [.int (nI t_length), .ref tA_text, .int (nI t_at_19), .int (nI t_begin_20), .int t_told_21, .ref tA_is, .ref tA_doings, .ref tA_doing, .int (t_items_11 + 1), .ref tA_row, .ref tA_isKept, .int t_when, .int t_most, .int t_mostAt, .int t_hiss, .ref tA_best, .ref tA_heats, .ref tA_orders, .ref tA_has, .int (nI t_tests), .ref tA_salt, .ref tA_crumbs, .long t_traced, .int t_hasSkin_22, .int t_hasBend_23])), (tA_text, .inl (g.2.1 2, 300, .inl t_text)), (tA_is, .inl (g.2.1 0, 18, .inl t_is_24)), (tA_doings, .inl (g.2.1 0, 2, .inl t_doings_25)), (tA_doing, .inl (g.2.1 0, 72, .inl t_doing_26))] H := hP
            have hD : va_D A [(tA, .inr (5, [.int (nI t_length), .ref tA_text, .int (nI t_at_19), .int (nI t_begin_20), .int t_told_21, .ref tA_is, .ref tA_doings, .ref tA_doing, .int (t_items_11 + 1), .ref tA_row, .ref tA_isKept, .int t_when, .int t_most, .int t_mostAt, .int t_hiss, .ref tA_best, .ref tA_heats, .ref tA_orders, .ref tA_has, .int (nI t_tests), .ref tA_salt, .ref tA_crumbs, .long t_traced, .int t_hasSkin_22, .int t_hasBend_23])), (tA_text, .inl (g.2.1 2, 300, .inl t_text)), (tA_is, .inl (g.2.1 0, 18, .inl t_is_24)), (tA_doings, .inl (g.2.1 0, 2, .inl t_doings_25)), (tA_doing, .inl (g.2.1 0, 72, .inl t_doing_26))] := hD
            refine lv_aload_n hx hb dX5_reads_181 rfl (lv_at hl 0 rfl) ?_
            refine x_callVv (w2 := fun u => [(tA, .inr (5, [.int (nI t_length), .ref tA_text, .int (nI u.1), .int (nI u.2), .int t_told_21, .ref tA_is, .ref tA_doings, .ref tA_doing, .int (t_items_11 + 1), .ref tA_row, .ref tA_isKept, .int t_when, .int t_most, .int t_mostAt, .int t_hiss, .ref tA_best, .ref tA_heats, .ref tA_orders, .ref tA_has, .int (nI t_tests), .ref tA_salt, .ref tA_crumbs, .long t_traced, .int t_hasSkin_22, .int t_hasBend_23])), (tA_text, .inl (g.2.1 2, 300, .inl t_text)), (tA_is, .inl (g.2.1 0, 18, .inl t_is_24)), (tA_doings, .inl (g.2.1 0, 2, .inl t_doings_25)), (tA_doing, .inl (g.2.1 0, 72, .inl t_doing_26))]) (wr := [(tA_is, .inl (g.2.1 0, 18, .inl t_is_24)), (tA_doings, .inl (g.2.1 0, 2, .inl t_doings_25)), (tA_doing, .inl (g.2.1 0, 72, .inl t_doing_26))]) [0, 1] [2, 3, 4] [3, 4, 0, 1, 2] 0 5 ⟨hx, hb, hml, hown, hts⟩ hK hX hP hD hS hA (m_X5_blanks l g tA tA_text tA_is tA_doings tA_doing tA_row tA_isKept tA_best tA_heats tA_orders tA_has tA_salt tA_crumbs t_length t_at_19 t_begin_20 t_told_21 (t_items_11 + 1) t_when t_most t_mostAt t_hiss t_tests t_traced t_hasSkin_22 t_hasBend_23 t_text (by first | assumption | omega | exact x_e8 (by assumption) (by assumption)) (by first | assumption | omega | exact x_e8 (by assumption) (by assumption))) (cwV 0 hts (x_gV kw_290 kw_291 kw_292 kw_5 kw_293) rfl rfl rfl vX5_blanks ⟨Nat.le_of_ble_eq_true rfl, Nat.le_of_ble_eq_true rfl⟩) rfl rfl rfl rfl rfl rfl rfl (by decide) (fun _ => rfl) rfl rfl hl.1 rfl (Nat.le_of_ble_eq_true rfl) dX5_reads_182 ⟨Nat.zero_le _, Nat.zero_le _⟩ (fun u H locs hw_34 hP hD hS => ?_)
            obtain ⟨t_at_32, t_begin_33⟩ := u
            obtain ⟨hw_34, en_182_0, en_182_1, en_182_2⟩ := hw_34
            have en_182_0 : t_at_32 ≤ 300 := en_182_0
            have en_182_1 : t_begin_33 = t_at_32 := en_182_1
            have en_182_2 : t_at_19 ≤ t_at_32 := en_182_2
            have hP : va_P g.1 vwCl [(tA, .inr (5, [.int (nI t_length), .ref tA_text, .int (nI t_at_32), .int (nI t_begin_33), .int t_told_21, .ref tA_is, .ref tA_doings, .ref tA_doing, .int (t_items_11 + 1), .ref tA_row, .ref tA_isKept, .int t_when, .int t_most, .int t_mostAt, .int t_hiss, .ref tA_best, .ref tA_heats, .ref tA_orders, .ref tA_has, .int (nI t_tests), .ref tA_salt, .ref tA_crumbs, .long t_traced, .int t_hasSkin_22, .int t_hasBend_23])), (tA_text, .inl (g.2.1 2, 300, .inl t_text)), (tA_is, .inl (g.2.1 0, 18, .inl t_is_24)), (tA_doings, .inl (g.2.1 0, 2, .inl t_doings_25)), (tA_doing, .inl (g.2.1 0, 72, .inl t_doing_26))] H := hP
            have hD : va_D A [(tA, .inr (5, [.int (nI t_length), .ref tA_text, .int (nI t_at_32), .int (nI t_begin_33), .int t_told_21, .ref tA_is, .ref tA_doings, .ref tA_doing, .int (t_items_11 + 1), .ref tA_row, .ref tA_isKept, .int t_when, .int t_most, .int t_mostAt, .int t_hiss, .ref tA_best, .ref tA_heats, .ref tA_orders, .ref tA_has, .int (nI t_tests), .ref tA_salt, .ref tA_crumbs, .long t_traced, .int t_hasSkin_22, .int t_hasBend_23])), (tA_text, .inl (g.2.1 2, 300, .inl t_text)), (tA_is, .inl (g.2.1 0, 18, .inl t_is_24)), (tA_doings, .inl (g.2.1 0, 2, .inl t_doings_25)), (tA_doing, .inl (g.2.1 0, 72, .inl t_doing_26))] := hD
            have E := x_nm_eq E hw_34
            refine lv_goto (tgt := 130) hx hb dX5_reads_185 (by decide) ?_
            exact ih_17 t_at_32 t_begin_33 t_told_21 (t_items_11 + 1) t_hasSkin_22 t_hasBend_23 t_is_24 t_doings_25 t_doing_26 (by first | omega | assumption | exact Eq.trans (by assumption) (by assumption)) (by first | omega | assumption | exact Eq.trans (by assumption) (by assumption)) (by first | omega | assumption | exact Eq.trans (by assumption) (by assumption)) (by first | omega | assumption | exact Eq.trans (by assumption) (by assumption)) (by omega) E H locs ls hP hD hS (lv_sub hl [0] rfl)
          · have E := x_pos E c_31
            refine lv_aload_n hx hb dX5_reads_148 rfl (lv_at hl 0 rfl) ?_
            refine va_get (ci := 5) (v := .int (nI t_begin_20)) (C := RX5) (T := TX5) (N := 25) hx hb hts inlX5 hown hK.1 hP 0 rfl rfl 3 (by decide) (hts _ kw_289) (fun _ h9 => h9) rfl dX5_reads_149 ?_
            refine lv_aload_n hx hb dX5_reads_152 rfl (lv_at hl 0 rfl) ?_
            refine va_get (ci := 5) (v := .int (nI t_length)) (C := RX5) (T := TX5) (N := 25) hx hb hts inlX5 hown hK.1 hP 0 rfl rfl 0 (by decide) (hts _ kw_128) (fun _ h9 => h9) rfl dX5_reads_153 ?_
            obtain ⟨o_37, E_37, E⟩ := x_nm_ex E
            have J_37 : ∀ (v_36 : Int32), o_37 = v_36 → ∀ (H : Heap) (locs : List Loc) (ls : Array Slot), va_P g.1 vwCl [(tA, .inr (5, [.int (nI t_length), .ref tA_text, .int (nI t_at_19), .int (nI t_begin_20), .int t_told_21, .ref tA_is, .ref tA_doings, .ref tA_doing, .int t_items_11, .ref tA_row, .ref tA_isKept, .int t_when, .int t_most, .int t_mostAt, .int t_hiss, .ref tA_best, .ref tA_heats, .ref tA_orders, .ref tA_has, .int (nI t_tests), .ref tA_salt, .ref tA_crumbs, .long t_traced, .int t_hasSkin_22, .int t_hasBend_23])), (tA_text, .inl (g.2.1 2, 300, .inl t_text)), (tA_is, .inl (g.2.1 0, 18, .inl t_is_24)), (tA_doings, .inl (g.2.1 0, 2, .inl t_doings_25)), (tA_doing, .inl (g.2.1 0, 72, .inl t_doing_26))] H → va_D A [(tA, .inr (5, [.int (nI t_length), .ref tA_text, .int (nI t_at_19), .int (nI t_begin_20), .int t_told_21, .ref tA_is, .ref tA_doings, .ref tA_doing, .int t_items_11, .ref tA_row, .ref tA_isKept, .int t_when, .int t_most, .int t_mostAt, .int t_hiss, .ref tA_best, .ref tA_heats, .ref tA_orders, .ref tA_has, .int (nI t_tests), .ref tA_salt, .ref tA_crumbs, .long t_traced, .int t_hasSkin_22, .int t_hasBend_23])), (tA_text, .inl (g.2.1 2, 300, .inl t_text)), (tA_is, .inl (g.2.1 0, 18, .inl t_is_24)), (tA_doings, .inl (g.2.1 0, 2, .inl t_doings_25)), (tA_doing, .inl (g.2.1 0, 72, .inl t_doing_26))] → va_S A s.heap H locs → lv_has ls 2 [] → W p l e rX5_reads s m args below meth c H locs 0 0 Q (F0 m 170 ls [.int v_36]) := by
              intro v_36 hE  H locs ls hP hD hS hl
              try rw [hE] at E
              exact RET v_36 (t_at_19, t_begin_20, t_told_21, t_items_11, t_hasSkin_22, t_hasBend_23, t_is_24, t_doings_25, t_doing_26) H locs _ _ (E.symm.trans hO) rfl hP hD hS dX5_reads_170
            have E := E_37
            refine x_icmp_ge (a := t_begin_20) (b := t_length) (tgt := 166) hx hb (by omega) (by omega) dX5_reads_156 (by decide) (fun c_38 => ?_) (fun c_38 => ?_)
            · have E := x_pos E c_38
              refine lv_aload_n hx hb dX5_reads_166 rfl (lv_at hl 0 rfl) ?_
              refine va_get (ci := 5) (v := .int (nI t_length)) (C := RX5) (T := TX5) (N := 25) hx hb hts inlX5 hown hK.1 hP 0 rfl rfl 0 (by decide) (hts _ kw_128) (fun _ h9 => h9) rfl dX5_reads_167 ?_
              exact J_37 (nI t_length) E  H locs ls hP hD hS (lv_sub hl [] rfl)
            · have E := x_neg E c_38
              refine lv_aload_n hx hb dX5_reads_159 rfl (lv_at hl 0 rfl) ?_
              refine va_get (ci := 5) (v := .int (nI t_begin_20)) (C := RX5) (T := TX5) (N := 25) hx hb hts inlX5 hown hK.1 hP 0 rfl rfl 3 (by decide) (hts _ kw_289) (fun _ h9 => h9) rfl dX5_reads_160 ?_
              refine lv_goto (tgt := 170) hx hb dX5_reads_163 (by decide) ?_
              exact J_37 (nI t_begin_20) E  H locs ls hP hD hS (lv_sub hl [] rfl)
    exact L_17 301 t_at_4 t_begin_5 t_told 0 0 0 t_is_2 t_doings_1 t_doing (by first | omega | assumption | rfl) (by first | omega | assumption | rfl) (by first | omega | assumption | rfl) (by first | omega | assumption | rfl) (by omega) E H locs ls hP hD hS (lv_sub hl [0] rfl)
  have E := E_3
  have L_41 : ∀ (n_41 : Nat) (k1_39 : Nat) (t_is_40 : Nat → Int32), (k1_39 ≤ 9) → ((9 - k1_39) < n_41) → o_3 = F_X5_reads_L29 n_41 k1_39 t_is_40 → ∀ (H : Heap) (locs : List Loc) (ls : Array Slot), va_P g.1 vwCl [(tA, .inr (5, [.int (nI t_length), .ref tA_text, .int 0, .int (nI t_begin), .int t_told, .ref tA_is, .ref tA_doings, .ref tA_doing, .int 0, .ref tA_row, .ref tA_isKept, .int t_when, .int t_most, .int t_mostAt, .int t_hiss, .ref tA_best, .ref tA_heats, .ref tA_orders, .ref tA_has, .int (nI t_tests), .ref tA_salt, .ref tA_crumbs, .long t_traced, .int 0, .int 0])), (tA_text, .inl (g.2.1 2, 300, .inl t_text)), (tA_is, .inl (g.2.1 0, 18, .inl t_is_40)), (tA_doings, .inl (g.2.1 0, 2, .inl t_doings_1)), (tA_doing, .inl (g.2.1 0, 72, .inl t_doing))] H → va_D A [(tA, .inr (5, [.int (nI t_length), .ref tA_text, .int 0, .int (nI t_begin), .int t_told, .ref tA_is, .ref tA_doings, .ref tA_doing, .int 0, .ref tA_row, .ref tA_isKept, .int t_when, .int t_most, .int t_mostAt, .int t_hiss, .ref tA_best, .ref tA_heats, .ref tA_orders, .ref tA_has, .int (nI t_tests), .ref tA_salt, .ref tA_crumbs, .long t_traced, .int 0, .int 0])), (tA_text, .inl (g.2.1 2, 300, .inl t_text)), (tA_is, .inl (g.2.1 0, 18, .inl t_is_40)), (tA_doings, .inl (g.2.1 0, 2, .inl t_doings_1)), (tA_doing, .inl (g.2.1 0, 72, .inl t_doing))] → va_S A s.heap H locs → lv_has ls 2 [(0, .ref tA), (1, .int (nI k1_39))] → W p l e rX5_reads s m args below meth c H locs 0 0 Q (F0 m 29 ls []) := by
    intro n_41
    induction n_41 with
    | zero => intro k1_39 t_is_40 i_41_0 i_41_1; exact absurd i_41_1 (by omega)
    | succ n_41 ih_41 =>
      intro k1_39 t_is_40 i_41_0 i_41_1 E H locs ls hP hD hS hl
      rw [F_X5_reads_L29.eq_2] at E
      refine lv_iload_n hx hb dX5_reads_29 rfl (lv_at hl 1 rfl) ?_
      refine lv_bipush (v := 9) hx hb dX5_reads_30 (by decide) ?_
      refine x_icmp_ge (a := k1_39) (b := 9) (tgt := 126) hx hb (by omega) (by omega) dX5_reads_32 (by decide) (fun c_42 => ?_) (fun c_42 => ?_)
      · have E := x_pos E c_42
        exact J_3 t_is_40 E  H locs ls hP hD hS (lv_sub hl [0] rfl)
      · have E := x_neg E c_42
        refine lv_aload_n hx hb dX5_reads_35 rfl (lv_at hl 0 rfl) ?_
        refine va_get (ci := 5) (v := .ref tA_is) (C := RX5) (T := TX5) (N := 25) hx hb hts inlX5 hown hK.1 hP 0 rfl rfl 5 (by decide) (hts _ kw_94) (fun _ h9 => h9) rfl dX5_reads_36 ?_
        refine lv_bipush (v := 9) hx hb dX5_reads_39 (by decide) ?_
        refine lv_iload_n hx hb dX5_reads_41 rfl (lv_at hl 1 rfl) ?_
        refine lv_iadd hx hb dX5_reads_42 ?_
        refine x_eqi (nI_add 9 k1_39) ?_
        refine lv_iload_n hx hb dX5_reads_43 rfl (lv_at hl 1 rfl) ?_
        obtain ⟨o_44, E_44, E⟩ := x_nm_ex E
        have J_44 : ∀ (v_43 : Int32), o_44 = v_43 → ∀ (H : Heap) (locs : List Loc) (ls : Array Slot), va_P g.1 vwCl [(tA, .inr (5, [.int (nI t_length), .ref tA_text, .int 0, .int (nI t_begin), .int t_told, .ref tA_is, .ref tA_doings, .ref tA_doing, .int 0, .ref tA_row, .ref tA_isKept, .int t_when, .int t_most, .int t_mostAt, .int t_hiss, .ref tA_best, .ref tA_heats, .ref tA_orders, .ref tA_has, .int (nI t_tests), .ref tA_salt, .ref tA_crumbs, .long t_traced, .int 0, .int 0])), (tA_text, .inl (g.2.1 2, 300, .inl t_text)), (tA_is, .inl (g.2.1 0, 18, .inl t_is_40)), (tA_doings, .inl (g.2.1 0, 2, .inl t_doings_1)), (tA_doing, .inl (g.2.1 0, 72, .inl t_doing))] H → va_D A [(tA, .inr (5, [.int (nI t_length), .ref tA_text, .int 0, .int (nI t_begin), .int t_told, .ref tA_is, .ref tA_doings, .ref tA_doing, .int 0, .ref tA_row, .ref tA_isKept, .int t_when, .int t_most, .int t_mostAt, .int t_hiss, .ref tA_best, .ref tA_heats, .ref tA_orders, .ref tA_has, .int (nI t_tests), .ref tA_salt, .ref tA_crumbs, .long t_traced, .int 0, .int 0])), (tA_text, .inl (g.2.1 2, 300, .inl t_text)), (tA_is, .inl (g.2.1 0, 18, .inl t_is_40)), (tA_doings, .inl (g.2.1 0, 2, .inl t_doings_1)), (tA_doing, .inl (g.2.1 0, 72, .inl t_doing))] → va_S A s.heap H locs → lv_has ls 2 [(0, .ref tA), (1, .int (nI k1_39))] → W p l e rX5_reads s m args below meth c H locs 0 0 Q (F0 m 119 ls [.int v_43, .int (nI (9 + k1_39)), .ref tA_is]) := by
          intro v_43 hE  H locs ls hP hD hS hl
          try rw [hE] at E
          refine x_iastN hx hb hK hP hD hS 2 (9 + k1_39) rfl (by omega) (by decide) dX5_reads_119 (fun t_is_45 H locs hf hP hD hS => ?_)
          have hP : va_P g.1 vwCl [(tA, .inr (5, [.int (nI t_length), .ref tA_text, .int 0, .int (nI t_begin), .int t_told, .ref tA_is, .ref tA_doings, .ref tA_doing, .int 0, .ref tA_row, .ref tA_isKept, .int t_when, .int t_most, .int t_mostAt, .int t_hiss, .ref tA_best, .ref tA_heats, .ref tA_orders, .ref tA_has, .int (nI t_tests), .ref tA_salt, .ref tA_crumbs, .long t_traced, .int 0, .int 0])), (tA_text, .inl (g.2.1 2, 300, .inl t_text)), (tA_is, .inl (g.2.1 0, 18, .inl t_is_45)), (tA_doings, .inl (g.2.1 0, 2, .inl t_doings_1)), (tA_doing, .inl (g.2.1 0, 72, .inl t_doing))] H := hP
          have hD : va_D A [(tA, .inr (5, [.int (nI t_length), .ref tA_text, .int 0, .int (nI t_begin), .int t_told, .ref tA_is, .ref tA_doings, .ref tA_doing, .int 0, .ref tA_row, .ref tA_isKept, .int t_when, .int t_most, .int t_mostAt, .int t_hiss, .ref tA_best, .ref tA_heats, .ref tA_orders, .ref tA_has, .int (nI t_tests), .ref tA_salt, .ref tA_crumbs, .long t_traced, .int 0, .int 0])), (tA_text, .inl (g.2.1 2, 300, .inl t_text)), (tA_is, .inl (g.2.1 0, 18, .inl t_is_45)), (tA_doings, .inl (g.2.1 0, 2, .inl t_doings_1)), (tA_doing, .inl (g.2.1 0, 72, .inl t_doing))] := hD
          have E := x_nm_eq E hf
          refine lv_iinc (v := nI (k1_39 + 1)) (lv' := [(1, .int (nI (k1_39 + 1))), (0, .ref tA)]) hx hb dX5_reads_120 hl (k := 1) rfl (nI_1 k1_39) (by decide) rfl (fun ls hl => ?_)
          refine lv_goto (tgt := 29) hx hb dX5_reads_123 (by decide) ?_
          exact ih_41 (k1_39 + 1) t_is_45 (by first | omega | assumption | exact Eq.trans (by assumption) (by assumption)) (by omega) E H locs ls hP hD hS (lv_sub hl [1, 0] rfl)
        have E := E_44
        refine x_if_ne (a := k1_39) (tgt := 51) hx hb (by omega) dX5_reads_44 (by decide) (fun c_46 => ?_) (fun c_46 => ?_)
        · have E := x_neg E c_46
          refine lv_iload_n hx hb dX5_reads_51 rfl (lv_at hl 1 rfl) ?_
          refine lv_iconst (v := 1) hx hb dX5_reads_52 (by decide) ?_
          refine x_icmp_ne (a := k1_39) (b := 1) (tgt := 62) hx hb (by omega) (by omega) dX5_reads_53 (by decide) (fun c_47 => ?_) (fun c_47 => ?_)
          · have E := x_neg E c_47
            refine lv_iload_n hx hb dX5_reads_62 rfl (lv_at hl 1 rfl) ?_
            refine lv_iconst (v := 2) hx hb dX5_reads_63 (by decide) ?_
            refine x_icmp_ne (a := k1_39) (b := 2) (tgt := 72) hx hb (by omega) (by omega) dX5_reads_64 (by decide) (fun c_48 => ?_) (fun c_48 => ?_)
            · have E := x_neg E c_48
              refine lv_iload_n hx hb dX5_reads_72 rfl (lv_at hl 1 rfl) ?_
              refine lv_iconst (v := 3) hx hb dX5_reads_73 (by decide) ?_
              refine x_icmp_eq (a := k1_39) (b := 3) (tgt := 82) hx hb (by omega) (by omega) dX5_reads_74 (by decide) (fun c_49 => ?_) (fun c_49 => ?_)
              · have E := x_pos E c_49
                refine lv_sipush (v := 300) hx hb dX5_reads_82 (by decide) ?_
                refine lv_goto (tgt := 119) hx hb dX5_reads_85 (by decide) ?_
                exact J_44 300 E  H locs ls hP hD hS (lv_sub hl [0, 1] rfl)
              · have E := x_neg E c_49
                refine lv_iload_n hx hb dX5_reads_77 rfl (lv_at hl 1 rfl) ?_
                refine lv_iconst (v := 4) hx hb dX5_reads_78 (by decide) ?_
                refine x_icmp_ne (a := k1_39) (b := 4) (tgt := 88) hx hb (by omega) (by omega) dX5_reads_79 (by decide) (fun c_50 => ?_) (fun c_50 => ?_)
                · have E := x_neg E c_50
                  refine lv_iload_n hx hb dX5_reads_88 rfl (lv_at hl 1 rfl) ?_
                  refine lv_iconst (v := 5) hx hb dX5_reads_89 (by decide) ?_
                  refine x_icmp_ne (a := k1_39) (b := 5) (tgt := 98) hx hb (by omega) (by omega) dX5_reads_90 (by decide) (fun c_51 => ?_) (fun c_51 => ?_)
                  · have E := x_neg E c_51
                    refine lv_iload_n hx hb dX5_reads_98 rfl (lv_at hl 1 rfl) ?_
                    refine lv_bipush (v := 6) hx hb dX5_reads_99 (by decide) ?_
                    refine x_icmp_ne (a := k1_39) (b := 6) (tgt := 108) hx hb (by omega) (by omega) dX5_reads_101 (by decide) (fun c_52 => ?_) (fun c_52 => ?_)
                    · have E := x_neg E c_52
                      refine lv_iload_n hx hb dX5_reads_108 rfl (lv_at hl 1 rfl) ?_
                      refine lv_bipush (v := 7) hx hb dX5_reads_109 (by decide) ?_
                      refine x_icmp_ne (a := k1_39) (b := 7) (tgt := 118) hx hb (by omega) (by omega) dX5_reads_111 (by decide) (fun c_53 => ?_) (fun c_53 => ?_)
                      · have E := x_neg E c_53
                        refine lv_iconst (v := 0) hx hb dX5_reads_118 (by decide) ?_
                        exact J_44 0 E  H locs ls hP hD hS (lv_sub hl [0, 1] rfl)
                      · have E := x_pos E c_53
                        refine lv_iconst (v := 4) hx hb dX5_reads_114 (by decide) ?_
                        refine lv_goto (tgt := 119) hx hb dX5_reads_115 (by decide) ?_
                        exact J_44 4 E  H locs ls hP hD hS (lv_sub hl [0, 1] rfl)
                    · have E := x_pos E c_52
                      refine lv_iconst (v := 2) hx hb dX5_reads_104 (by decide) ?_
                      refine lv_goto (tgt := 119) hx hb dX5_reads_105 (by decide) ?_
                      exact J_44 2 E  H locs ls hP hD hS (lv_sub hl [0, 1] rfl)
                  · have E := x_pos E c_51
                    refine lv_bipush (v := 40) hx hb dX5_reads_93 (by decide) ?_
                    refine lv_goto (tgt := 119) hx hb dX5_reads_95 (by decide) ?_
                    exact J_44 40 E  H locs ls hP hD hS (lv_sub hl [0, 1] rfl)
                · have E := x_pos E c_50
                  refine lv_sipush (v := 300) hx hb dX5_reads_82 (by decide) ?_
                  refine lv_goto (tgt := 119) hx hb dX5_reads_85 (by decide) ?_
                  exact J_44 300 E  H locs ls hP hD hS (lv_sub hl [0, 1] rfl)
            · have E := x_pos E c_48
              refine lv_bipush (v := 10) hx hb dX5_reads_67 (by decide) ?_
              refine lv_goto (tgt := 119) hx hb dX5_reads_69 (by decide) ?_
              exact J_44 10 E  H locs ls hP hD hS (lv_sub hl [0, 1] rfl)
          · have E := x_pos E c_47
            refine lv_sipush (v := 200) hx hb dX5_reads_56 (by decide) ?_
            refine lv_goto (tgt := 119) hx hb dX5_reads_59 (by decide) ?_
            exact J_44 200 E  H locs ls hP hD hS (lv_sub hl [0, 1] rfl)
        · have E := x_pos E c_46
          refine lv_iconst (v := 3) hx hb dX5_reads_47 (by decide) ?_
          refine lv_goto (tgt := 119) hx hb dX5_reads_48 (by decide) ?_
          exact J_44 3 E  H locs ls hP hD hS (lv_sub hl [0, 1] rfl)
  exact L_41 (9 + 1) 0 t_is (by first | omega | assumption | rfl) (by omega) E H locs ls hP hD hS (lv_sub hl [1, 0] rfl)
abbrev rX5_sausage : Room := { frames := 5, cells := 0, slots := 0, locals := 113 }
theorem vX5_sausage : yX5_sausage.cls = RX5 ∧ yX5_sausage.cls ≠ "java/lang/invoke/MethodHandle" ∧ yX5_sausage.cls ≠ "java/lang/invoke/VarHandle" ∧ (parseMethodDescriptor yX5_sausage.desc).map (fun d => d.parameters.length) = some 0 := by decide +kernel
abbrev wX5_sausage : List Cond := Cond.code yX5_sausage cX5_sausage 3 (some .int) :: wsL_law
def F_X5_sausage_L57 : Nat → Nat → (Nat → Int32) → (Nat → Int32)
  | 0, k2_24, t_doing_25 => t_doing_25
  | n_26 + 1, k2_24, t_doing_25 => if 36 ≤ k2_24 then t_doing_25 else x_nm (upd t_doing_25 k2_24 (t_doing_25 (36 + k2_24))) fun t_doing_28 => F_X5_sausage_L57 n_26 (k2_24 + 1) t_doing_28
def F_X5_sausage_L16 : Nat → Nat → (Nat → Int32) → (Nat → Int32)
  | 0, k2_29, t_is_30 => t_is_30
  | n_31 + 1, k2_29, t_is_30 => if 9 ≤ k2_29 then t_is_30 else x_nm (upd t_is_30 k2_29 (t_is_30 (9 + k2_29))) fun t_is_33 => F_X5_sausage_L16 n_31 (k2_29 + 1) t_is_33
def F_X5_sausage (t_length : Nat) (t_text : Nat → Int32) (t_told : Int32) (t_is : Nat → Int32) (t_doings : Nat → Int32) (t_doing : Nat → Int32) (t_row : Nat → Int32) (t_isKept : Nat → Int32) : Int32 × Nat × Nat × Nat × Int32 × Int32 × Int32 × Int32 × (Nat → Int32) × (Nat → Int32) × (Nat → Int32) × (Nat → Int32) × (Nat → Int32) :=
  x_nm (F_X5_reads t_length t_text t_told t_is t_doings t_doing) fun u_12 => if u_12.1 < 0 then x_nm (α := (Nat → Int32)) (F_X5_sausage_L16 (9 + 1) 0 u_12.2.2.2.2.2.2.2.1) fun u_15 => x_nm (upd u_12.2.2.2.2.2.2.2.2.1 0 (u_12.2.2.2.2.2.2.2.2.1 1)) fun t_doings_16 => x_nm (α := (Nat → Int32)) (F_X5_sausage_L57 (36 + 1) 0 u_12.2.2.2.2.2.2.2.2.2) fun u_18 => x_nm (F_X5_begins u_15 t_row 0) fun t_row_19 => x_nm (upd t_isKept 0 0) fun t_isKept_22 => x_nm (upd t_isKept_22 1 0) fun t_isKept_23 => (u_12.2.2.2.2.1, 0, u_12.2.1, u_12.2.2.1, u_12.2.2.2.1, u_12.2.2.2.2.1, u_12.2.2.2.2.2.1, u_12.2.2.2.2.2.2.1, u_15, t_doings_16, u_18, t_row_19, t_isKept_23) else ((-10) - u_12.1, t_length, u_12.2.1, u_12.2.2.1, u_12.2.2.2.1, u_12.2.2.2.2.1, u_12.2.2.2.2.2.1, u_12.2.2.2.2.2.2.1, u_12.2.2.2.2.2.2.2.1, u_12.2.2.2.2.2.2.2.2.1, u_12.2.2.2.2.2.2.2.2.2, t_row, t_isKept)
set_option maxHeartbeats 4000000 in
set_option maxRecDepth 100000 in
theorem m_X5_sausage (l : Launch) (g : x_G) (tA tA_text tA_is tA_doings tA_doing tA_row tA_isKept tA_best tA_heats tA_orders tA_has tA_salt tA_crumbs : Nat) (t_length : Nat) (t_at : Nat) (t_begin : Nat) (t_told : Int32) (t_items : Int32) (t_when : Int32) (t_most : Int32) (t_mostAt : Int32) (t_hiss : Int32) (t_tests : Nat) (t_traced : Int64) (t_hasSkin : Int32) (t_hasBend : Int32) (t_text : Nat → Int32) (t_is : Nat → Int32) (t_doings : Nat → Int32) (t_doing : Nat → Int32) (t_row : Nat → Int32) (t_isKept : Nat → Int32) (h_0 : t_length ≤ 300) : x_MetI l yX5_sausage wX5_sausage rX5_sausage g [.ref tA] [(tA, .inr (5, [.int (nI t_length), .ref tA_text, .int (nI t_at), .int (nI t_begin), .int t_told, .ref tA_is, .ref tA_doings, .ref tA_doing, .int t_items, .ref tA_row, .ref tA_isKept, .int t_when, .int t_most, .int t_mostAt, .int t_hiss, .ref tA_best, .ref tA_heats, .ref tA_orders, .ref tA_has, .int (nI t_tests), .ref tA_salt, .ref tA_crumbs, .long t_traced, .int t_hasSkin, .int t_hasBend])), (tA_text, .inl (g.2.1 2, 300, .inl t_text)), (tA_is, .inl (g.2.1 0, 18, .inl t_is)), (tA_doings, .inl (g.2.1 0, 2, .inl t_doings)), (tA_doing, .inl (g.2.1 0, 72, .inl t_doing)), (tA_row, .inl (g.2.1 0, 80, .inl t_row)), (tA_isKept, .inl (g.2.1 1, 2, .inl t_isKept))] (fun (r : Int32) (u : Nat × Nat × Nat × Int32 × Int32 × Int32 × Int32 × (Nat → Int32) × (Nat → Int32) × (Nat → Int32) × (Nat → Int32) × (Nat → Int32)) => (r, u) = F_X5_sausage t_length t_text t_told t_is t_doings t_doing t_row t_isKept) (fun u => [(tA, .inr (5, [.int (nI u.1), .ref tA_text, .int (nI u.2.1), .int (nI u.2.2.1), .int u.2.2.2.1, .ref tA_is, .ref tA_doings, .ref tA_doing, .int u.2.2.2.2.1, .ref tA_row, .ref tA_isKept, .int t_when, .int t_most, .int t_mostAt, .int t_hiss, .ref tA_best, .ref tA_heats, .ref tA_orders, .ref tA_has, .int (nI t_tests), .ref tA_salt, .ref tA_crumbs, .long t_traced, .int u.2.2.2.2.2.1, .int u.2.2.2.2.2.2.1])), (tA_text, .inl (g.2.1 2, 300, .inl t_text)), (tA_is, .inl (g.2.1 0, 18, .inl u.2.2.2.2.2.2.2.1)), (tA_doings, .inl (g.2.1 0, 2, .inl u.2.2.2.2.2.2.2.2.1)), (tA_doing, .inl (g.2.1 0, 72, .inl u.2.2.2.2.2.2.2.2.2.1)), (tA_row, .inl (g.2.1 0, 80, .inl u.2.2.2.2.2.2.2.2.2.2.1)), (tA_isKept, .inl (g.2.1 1, 2, .inl u.2.2.2.2.2.2.2.2.2.2.2))]) := by
  refine x_startI (cc := cX5_sausage) (maxL := 3) (by decide) rfl (Nat.le_of_ble_eq_true rfl) ?_
  intro p e s m args below meth c Q A ls H locs hx hb hml hown hts hK hX hP hD hS hA hl RET
  have hown : s.vm.findClass RX5 = some m.cls := hown
  have hl : lv_has ls 3 [(0, .ref tA)] := hl
  obtain ⟨o_0, hO⟩ : ∃ z, z = F_X5_sausage t_length t_text t_told t_is t_doings t_doing t_row t_isKept := ⟨_, rfl⟩
  have E := hO
  rw [F_X5_sausage.eq_1] at E
  refine lv_aload_n hx hb dX5_sausage_0 rfl (lv_at hl 0 rfl) ?_
  refine x_callVi (w2 := fun u => [(tA, .inr (5, [.int (nI t_length), .ref tA_text, .int (nI u.1), .int (nI u.2.1), .int u.2.2.1, .ref tA_is, .ref tA_doings, .ref tA_doing, .int u.2.2.2.1, .ref tA_row, .ref tA_isKept, .int t_when, .int t_most, .int t_mostAt, .int t_hiss, .ref tA_best, .ref tA_heats, .ref tA_orders, .ref tA_has, .int (nI t_tests), .ref tA_salt, .ref tA_crumbs, .long t_traced, .int u.2.2.2.2.1, .int u.2.2.2.2.2.1])), (tA_text, .inl (g.2.1 2, 300, .inl t_text)), (tA_is, .inl (g.2.1 0, 18, .inl u.2.2.2.2.2.2.1)), (tA_doings, .inl (g.2.1 0, 2, .inl u.2.2.2.2.2.2.2.1)), (tA_doing, .inl (g.2.1 0, 72, .inl u.2.2.2.2.2.2.2.2)), (tA_row, .inl (g.2.1 0, 80, .inl t_row)), (tA_isKept, .inl (g.2.1 1, 2, .inl t_isKept))]) (wr := [(tA_row, .inl (g.2.1 0, 80, .inl t_row)), (tA_isKept, .inl (g.2.1 1, 2, .inl t_isKept))]) [0, 1, 2, 3, 4] [5, 6] [2, 3, 4, 5, 6, 0, 1] 0 5 ⟨hx, hb, hml, hown, hts⟩ hK hX hP hD hS hA (m_X5_reads l g tA tA_text tA_is tA_doings tA_doing tA_row tA_isKept tA_best tA_heats tA_orders tA_has tA_salt tA_crumbs t_length t_at t_begin t_told t_items t_when t_most t_mostAt t_hiss t_tests t_traced t_hasSkin t_hasBend t_text t_is t_doings t_doing (by first | assumption | omega | exact x_e8 (by assumption) (by assumption))) (cwV 0 hts (x_gV kw_282 kw_283 kw_284 kw_5 kw_285) rfl rfl rfl vX5_reads ⟨Nat.le_of_ble_eq_true rfl, Nat.le_of_ble_eq_true rfl⟩) rfl rfl rfl rfl rfl rfl rfl (by decide) (fun _ => rfl) rfl rfl hl.1 rfl (Nat.le_of_ble_eq_true rfl) dX5_sausage_1 ⟨Nat.zero_le _, Nat.zero_le _⟩ (fun z_10 u H locs hw_11 hP hD hS => ?_)
  obtain ⟨t_at_1, t_begin_2, t_told_3, t_items_4, t_hasSkin_5, t_hasBend_6, t_is_7, t_doings_8, t_doing_9⟩ := u
  have hP : va_P g.1 vwCl [(tA, .inr (5, [.int (nI t_length), .ref tA_text, .int (nI t_at_1), .int (nI t_begin_2), .int t_told_3, .ref tA_is, .ref tA_doings, .ref tA_doing, .int t_items_4, .ref tA_row, .ref tA_isKept, .int t_when, .int t_most, .int t_mostAt, .int t_hiss, .ref tA_best, .ref tA_heats, .ref tA_orders, .ref tA_has, .int (nI t_tests), .ref tA_salt, .ref tA_crumbs, .long t_traced, .int t_hasSkin_5, .int t_hasBend_6])), (tA_text, .inl (g.2.1 2, 300, .inl t_text)), (tA_is, .inl (g.2.1 0, 18, .inl t_is_7)), (tA_doings, .inl (g.2.1 0, 2, .inl t_doings_8)), (tA_doing, .inl (g.2.1 0, 72, .inl t_doing_9)), (tA_row, .inl (g.2.1 0, 80, .inl t_row)), (tA_isKept, .inl (g.2.1 1, 2, .inl t_isKept))] H := hP
  have hD : va_D A [(tA, .inr (5, [.int (nI t_length), .ref tA_text, .int (nI t_at_1), .int (nI t_begin_2), .int t_told_3, .ref tA_is, .ref tA_doings, .ref tA_doing, .int t_items_4, .ref tA_row, .ref tA_isKept, .int t_when, .int t_most, .int t_mostAt, .int t_hiss, .ref tA_best, .ref tA_heats, .ref tA_orders, .ref tA_has, .int (nI t_tests), .ref tA_salt, .ref tA_crumbs, .long t_traced, .int t_hasSkin_5, .int t_hasBend_6])), (tA_text, .inl (g.2.1 2, 300, .inl t_text)), (tA_is, .inl (g.2.1 0, 18, .inl t_is_7)), (tA_doings, .inl (g.2.1 0, 2, .inl t_doings_8)), (tA_doing, .inl (g.2.1 0, 72, .inl t_doing_9)), (tA_row, .inl (g.2.1 0, 80, .inl t_row)), (tA_isKept, .inl (g.2.1 1, 2, .inl t_isKept))] := hD
  have E := x_nm_eq E hw_11
  refine lv_istore_n (lv' := [(1, .int z_10), (0, .ref tA)]) hx hb dX5_sausage_4 rfl hl (by decide) rfl (fun ls hl => ?_)
  refine lv_iload_n hx hb dX5_sausage_5 rfl (lv_at hl 0 rfl) ?_
  refine lv_if_lt (tgt := 14) hx hb dX5_sausage_6 (by decide) (fun c_13 => ?_) (fun c_13 => ?_)
  · have E := x_pos E c_13
    refine lv_iconst (v := 0) hx hb dX5_sausage_14 (by decide) ?_
    refine lv_istore_n (lv' := [(2, .int 0), (1, .int z_10), (0, .ref tA)]) hx hb dX5_sausage_15 rfl hl (by decide) rfl (fun ls hl => ?_)
    obtain ⟨o_15, E_15, E⟩ := x_nm_ex E
    have J_15 : ∀ (t_is_14 : Nat → Int32), o_15 = t_is_14 → ∀ (H : Heap) (locs : List Loc) (ls : Array Slot), va_P g.1 vwCl [(tA, .inr (5, [.int (nI t_length), .ref tA_text, .int (nI t_at_1), .int (nI t_begin_2), .int t_told_3, .ref tA_is, .ref tA_doings, .ref tA_doing, .int t_items_4, .ref tA_row, .ref tA_isKept, .int t_when, .int t_most, .int t_mostAt, .int t_hiss, .ref tA_best, .ref tA_heats, .ref tA_orders, .ref tA_has, .int (nI t_tests), .ref tA_salt, .ref tA_crumbs, .long t_traced, .int t_hasSkin_5, .int t_hasBend_6])), (tA_text, .inl (g.2.1 2, 300, .inl t_text)), (tA_is, .inl (g.2.1 0, 18, .inl t_is_14)), (tA_doings, .inl (g.2.1 0, 2, .inl t_doings_8)), (tA_doing, .inl (g.2.1 0, 72, .inl t_doing_9)), (tA_row, .inl (g.2.1 0, 80, .inl t_row)), (tA_isKept, .inl (g.2.1 1, 2, .inl t_isKept))] H → va_D A [(tA, .inr (5, [.int (nI t_length), .ref tA_text, .int (nI t_at_1), .int (nI t_begin_2), .int t_told_3, .ref tA_is, .ref tA_doings, .ref tA_doing, .int t_items_4, .ref tA_row, .ref tA_isKept, .int t_when, .int t_most, .int t_mostAt, .int t_hiss, .ref tA_best, .ref tA_heats, .ref tA_orders, .ref tA_has, .int (nI t_tests), .ref tA_salt, .ref tA_crumbs, .long t_traced, .int t_hasSkin_5, .int t_hasBend_6])), (tA_text, .inl (g.2.1 2, 300, .inl t_text)), (tA_is, .inl (g.2.1 0, 18, .inl t_is_14)), (tA_doings, .inl (g.2.1 0, 2, .inl t_doings_8)), (tA_doing, .inl (g.2.1 0, 72, .inl t_doing_9)), (tA_row, .inl (g.2.1 0, 80, .inl t_row)), (tA_isKept, .inl (g.2.1 1, 2, .inl t_isKept))] → va_S A s.heap H locs → lv_has ls 3 [(0, .ref tA)] → W p l e rX5_sausage s m args below meth c H locs 0 0 Q (F0 m 43 ls []) := by
      intro t_is_14 hE  H locs ls hP hD hS hl
      try rw [hE] at E
      refine lv_aload_n hx hb dX5_sausage_43 rfl (lv_at hl 0 rfl) ?_
      refine va_get (ci := 5) (v := .ref tA_doings) (C := RX5) (T := TX5) (N := 25) hx hb hts inlX5 hown hK.1 hP 0 rfl rfl 6 (by decide) (hts _ kw_95) (fun _ h9 => h9) rfl dX5_sausage_44 ?_
      refine lv_iconst (v := 0) hx hb dX5_sausage_47 (by decide) ?_
      refine lv_aload_n hx hb dX5_sausage_48 rfl (lv_at hl 0 rfl) ?_
      refine va_get (ci := 5) (v := .ref tA_doings) (C := RX5) (T := TX5) (N := 25) hx hb hts inlX5 hown hK.1 hP 0 rfl rfl 6 (by decide) (hts _ kw_95) (fun _ h9 => h9) rfl dX5_sausage_49 ?_
      refine lv_iconst (v := 1) hx hb dX5_sausage_52 (by decide) ?_
      refine x_ialdN hx hb hK hP 3 1 rfl (by omega) (by decide) dX5_sausage_53 ?_
      refine x_iastN hx hb hK hP hD hS 3 0 rfl (by omega) (by decide) dX5_sausage_54 (fun t_doings_16 H locs hf hP hD hS => ?_)
      have hP : va_P g.1 vwCl [(tA, .inr (5, [.int (nI t_length), .ref tA_text, .int (nI t_at_1), .int (nI t_begin_2), .int t_told_3, .ref tA_is, .ref tA_doings, .ref tA_doing, .int t_items_4, .ref tA_row, .ref tA_isKept, .int t_when, .int t_most, .int t_mostAt, .int t_hiss, .ref tA_best, .ref tA_heats, .ref tA_orders, .ref tA_has, .int (nI t_tests), .ref tA_salt, .ref tA_crumbs, .long t_traced, .int t_hasSkin_5, .int t_hasBend_6])), (tA_text, .inl (g.2.1 2, 300, .inl t_text)), (tA_is, .inl (g.2.1 0, 18, .inl t_is_14)), (tA_doings, .inl (g.2.1 0, 2, .inl t_doings_16)), (tA_doing, .inl (g.2.1 0, 72, .inl t_doing_9)), (tA_row, .inl (g.2.1 0, 80, .inl t_row)), (tA_isKept, .inl (g.2.1 1, 2, .inl t_isKept))] H := hP
      have hD : va_D A [(tA, .inr (5, [.int (nI t_length), .ref tA_text, .int (nI t_at_1), .int (nI t_begin_2), .int t_told_3, .ref tA_is, .ref tA_doings, .ref tA_doing, .int t_items_4, .ref tA_row, .ref tA_isKept, .int t_when, .int t_most, .int t_mostAt, .int t_hiss, .ref tA_best, .ref tA_heats, .ref tA_orders, .ref tA_has, .int (nI t_tests), .ref tA_salt, .ref tA_crumbs, .long t_traced, .int t_hasSkin_5, .int t_hasBend_6])), (tA_text, .inl (g.2.1 2, 300, .inl t_text)), (tA_is, .inl (g.2.1 0, 18, .inl t_is_14)), (tA_doings, .inl (g.2.1 0, 2, .inl t_doings_16)), (tA_doing, .inl (g.2.1 0, 72, .inl t_doing_9)), (tA_row, .inl (g.2.1 0, 80, .inl t_row)), (tA_isKept, .inl (g.2.1 1, 2, .inl t_isKept))] := hD
      have E := x_nm_eq E hf
      refine lv_iconst (v := 0) hx hb dX5_sausage_55 (by decide) ?_
      refine lv_istore_n (lv' := [(2, .int 0), (0, .ref tA)]) hx hb dX5_sausage_56 rfl hl (by decide) rfl (fun ls hl => ?_)
      obtain ⟨o_18, E_18, E⟩ := x_nm_ex E
      have J_18 : ∀ (t_doing_17 : Nat → Int32), o_18 = t_doing_17 → ∀ (H : Heap) (locs : List Loc) (ls : Array Slot), va_P g.1 vwCl [(tA, .inr (5, [.int (nI t_length), .ref tA_text, .int (nI t_at_1), .int (nI t_begin_2), .int t_told_3, .ref tA_is, .ref tA_doings, .ref tA_doing, .int t_items_4, .ref tA_row, .ref tA_isKept, .int t_when, .int t_most, .int t_mostAt, .int t_hiss, .ref tA_best, .ref tA_heats, .ref tA_orders, .ref tA_has, .int (nI t_tests), .ref tA_salt, .ref tA_crumbs, .long t_traced, .int t_hasSkin_5, .int t_hasBend_6])), (tA_text, .inl (g.2.1 2, 300, .inl t_text)), (tA_is, .inl (g.2.1 0, 18, .inl t_is_14)), (tA_doings, .inl (g.2.1 0, 2, .inl t_doings_16)), (tA_doing, .inl (g.2.1 0, 72, .inl t_doing_17)), (tA_row, .inl (g.2.1 0, 80, .inl t_row)), (tA_isKept, .inl (g.2.1 1, 2, .inl t_isKept))] H → va_D A [(tA, .inr (5, [.int (nI t_length), .ref tA_text, .int (nI t_at_1), .int (nI t_begin_2), .int t_told_3, .ref tA_is, .ref tA_doings, .ref tA_doing, .int t_items_4, .ref tA_row, .ref tA_isKept, .int t_when, .int t_most, .int t_mostAt, .int t_hiss, .ref tA_best, .ref tA_heats, .ref tA_orders, .ref tA_has, .int (nI t_tests), .ref tA_salt, .ref tA_crumbs, .long t_traced, .int t_hasSkin_5, .int t_hasBend_6])), (tA_text, .inl (g.2.1 2, 300, .inl t_text)), (tA_is, .inl (g.2.1 0, 18, .inl t_is_14)), (tA_doings, .inl (g.2.1 0, 2, .inl t_doings_16)), (tA_doing, .inl (g.2.1 0, 72, .inl t_doing_17)), (tA_row, .inl (g.2.1 0, 80, .inl t_row)), (tA_isKept, .inl (g.2.1 1, 2, .inl t_isKept))] → va_S A s.heap H locs → lv_has ls 3 [(0, .ref tA)] → W p l e rX5_sausage s m args below meth c H locs 0 0 Q (F0 m 84 ls []) := by
        intro t_doing_17 hE  H locs ls hP hD hS hl
        try rw [hE] at E
        refine lv_aload_n hx hb dX5_sausage_84 rfl (lv_at hl 0 rfl) ?_
        refine lv_iconst (v := 0) hx hb dX5_sausage_85 (by decide) ?_
        refine x_callVv (w2 := fun u => [(tA, .inr (5, [.int (nI t_length), .ref tA_text, .int (nI t_at_1), .int (nI t_begin_2), .int t_told_3, .ref tA_is, .ref tA_doings, .ref tA_doing, .int t_items_4, .ref tA_row, .ref tA_isKept, .int t_when, .int t_most, .int t_mostAt, .int t_hiss, .ref tA_best, .ref tA_heats, .ref tA_orders, .ref tA_has, .int (nI t_tests), .ref tA_salt, .ref tA_crumbs, .long t_traced, .int t_hasSkin_5, .int t_hasBend_6])), (tA_text, .inl (g.2.1 2, 300, .inl t_text)), (tA_is, .inl (g.2.1 0, 18, .inl t_is_14)), (tA_doings, .inl (g.2.1 0, 2, .inl t_doings_16)), (tA_doing, .inl (g.2.1 0, 72, .inl t_doing_17)), (tA_row, .inl (g.2.1 0, 80, .inl u)), (tA_isKept, .inl (g.2.1 1, 2, .inl t_isKept))]) (wr := [(tA_text, .inl (g.2.1 2, 300, .inl t_text)), (tA_doings, .inl (g.2.1 0, 2, .inl t_doings_16)), (tA_doing, .inl (g.2.1 0, 72, .inl t_doing_17)), (tA_isKept, .inl (g.2.1 1, 2, .inl t_isKept))]) [0, 2, 5] [1, 3, 4, 6] [4, 0, 5, 1, 2, 6, 3] 0 5 ⟨hx, hb, hml, hown, hts⟩ hK hX hP hD hS hA (m_X5_begins l g tA tA_is tA_row tA_text tA_doings tA_doing tA_isKept tA_best tA_heats tA_orders tA_has tA_salt tA_crumbs t_length t_at_1 t_begin_2 t_told_3 t_items_4 t_when t_most t_mostAt t_hiss t_tests t_traced t_hasSkin_5 t_hasBend_6 t_is_14 t_row 0 (by first | assumption | omega | exact x_e8 (by assumption) (by assumption))) (cwV 1 hts (x_gV kw_106 kw_107 kw_108 kw_5 kw_109) rfl rfl rfl vX5_begins ⟨Nat.le_of_ble_eq_true rfl, Nat.le_of_ble_eq_true rfl⟩) rfl rfl rfl rfl rfl rfl rfl (by decide) (fun _ => rfl) rfl rfl hl.1 rfl (Nat.le_of_ble_eq_true rfl) dX5_sausage_86 ⟨Nat.zero_le _, Nat.zero_le _⟩ (fun t_row_19 H locs hw_20 hP hD hS => ?_)
        have hP : va_P g.1 vwCl [(tA, .inr (5, [.int (nI t_length), .ref tA_text, .int (nI t_at_1), .int (nI t_begin_2), .int t_told_3, .ref tA_is, .ref tA_doings, .ref tA_doing, .int t_items_4, .ref tA_row, .ref tA_isKept, .int t_when, .int t_most, .int t_mostAt, .int t_hiss, .ref tA_best, .ref tA_heats, .ref tA_orders, .ref tA_has, .int (nI t_tests), .ref tA_salt, .ref tA_crumbs, .long t_traced, .int t_hasSkin_5, .int t_hasBend_6])), (tA_text, .inl (g.2.1 2, 300, .inl t_text)), (tA_is, .inl (g.2.1 0, 18, .inl t_is_14)), (tA_doings, .inl (g.2.1 0, 2, .inl t_doings_16)), (tA_doing, .inl (g.2.1 0, 72, .inl t_doing_17)), (tA_row, .inl (g.2.1 0, 80, .inl t_row_19)), (tA_isKept, .inl (g.2.1 1, 2, .inl t_isKept))] H := hP
        have hD : va_D A [(tA, .inr (5, [.int (nI t_length), .ref tA_text, .int (nI t_at_1), .int (nI t_begin_2), .int t_told_3, .ref tA_is, .ref tA_doings, .ref tA_doing, .int t_items_4, .ref tA_row, .ref tA_isKept, .int t_when, .int t_most, .int t_mostAt, .int t_hiss, .ref tA_best, .ref tA_heats, .ref tA_orders, .ref tA_has, .int (nI t_tests), .ref tA_salt, .ref tA_crumbs, .long t_traced, .int t_hasSkin_5, .int t_hasBend_6])), (tA_text, .inl (g.2.1 2, 300, .inl t_text)), (tA_is, .inl (g.2.1 0, 18, .inl t_is_14)), (tA_doings, .inl (g.2.1 0, 2, .inl t_doings_16)), (tA_doing, .inl (g.2.1 0, 72, .inl t_doing_17)), (tA_row, .inl (g.2.1 0, 80, .inl t_row_19)), (tA_isKept, .inl (g.2.1 1, 2, .inl t_isKept))] := hD
        have E := x_nm_eq E hw_20
        refine lv_aload_n hx hb dX5_sausage_89 rfl (lv_at hl 0 rfl) ?_
        refine va_get (ci := 5) (v := .ref tA_isKept) (C := RX5) (T := TX5) (N := 25) hx hb hts inlX5 hown hK.1 hP 0 rfl rfl 10 (by decide) (hts _ kw_98) (fun _ h9 => h9) rfl dX5_sausage_90 ?_
        refine lv_iconst (v := 0) hx hb dX5_sausage_93 (by decide) ?_
        refine lv_iconst (v := 0) hx hb dX5_sausage_94 (by decide) ?_
        refine x_zastN hx hb hK hP hD hS 6 0 rfl (by omega) (by decide) dX5_sausage_95 (x_nar0 (Or.inl rfl)) (fun t_isKept_22 H locs hf hP hD hS => ?_)
        have hP : va_P g.1 vwCl [(tA, .inr (5, [.int (nI t_length), .ref tA_text, .int (nI t_at_1), .int (nI t_begin_2), .int t_told_3, .ref tA_is, .ref tA_doings, .ref tA_doing, .int t_items_4, .ref tA_row, .ref tA_isKept, .int t_when, .int t_most, .int t_mostAt, .int t_hiss, .ref tA_best, .ref tA_heats, .ref tA_orders, .ref tA_has, .int (nI t_tests), .ref tA_salt, .ref tA_crumbs, .long t_traced, .int t_hasSkin_5, .int t_hasBend_6])), (tA_text, .inl (g.2.1 2, 300, .inl t_text)), (tA_is, .inl (g.2.1 0, 18, .inl t_is_14)), (tA_doings, .inl (g.2.1 0, 2, .inl t_doings_16)), (tA_doing, .inl (g.2.1 0, 72, .inl t_doing_17)), (tA_row, .inl (g.2.1 0, 80, .inl t_row_19)), (tA_isKept, .inl (g.2.1 1, 2, .inl t_isKept_22))] H := hP
        have hD : va_D A [(tA, .inr (5, [.int (nI t_length), .ref tA_text, .int (nI t_at_1), .int (nI t_begin_2), .int t_told_3, .ref tA_is, .ref tA_doings, .ref tA_doing, .int t_items_4, .ref tA_row, .ref tA_isKept, .int t_when, .int t_most, .int t_mostAt, .int t_hiss, .ref tA_best, .ref tA_heats, .ref tA_orders, .ref tA_has, .int (nI t_tests), .ref tA_salt, .ref tA_crumbs, .long t_traced, .int t_hasSkin_5, .int t_hasBend_6])), (tA_text, .inl (g.2.1 2, 300, .inl t_text)), (tA_is, .inl (g.2.1 0, 18, .inl t_is_14)), (tA_doings, .inl (g.2.1 0, 2, .inl t_doings_16)), (tA_doing, .inl (g.2.1 0, 72, .inl t_doing_17)), (tA_row, .inl (g.2.1 0, 80, .inl t_row_19)), (tA_isKept, .inl (g.2.1 1, 2, .inl t_isKept_22))] := hD
        have E := x_nm_eq E hf
        refine lv_aload_n hx hb dX5_sausage_96 rfl (lv_at hl 0 rfl) ?_
        refine va_get (ci := 5) (v := .ref tA_isKept) (C := RX5) (T := TX5) (N := 25) hx hb hts inlX5 hown hK.1 hP 0 rfl rfl 10 (by decide) (hts _ kw_98) (fun _ h9 => h9) rfl dX5_sausage_97 ?_
        refine lv_iconst (v := 1) hx hb dX5_sausage_100 (by decide) ?_
        refine lv_iconst (v := 0) hx hb dX5_sausage_101 (by decide) ?_
        refine x_zastN hx hb hK hP hD hS 6 1 rfl (by omega) (by decide) dX5_sausage_102 (x_nar0 (Or.inl rfl)) (fun t_isKept_23 H locs hf hP hD hS => ?_)
        have hP : va_P g.1 vwCl [(tA, .inr (5, [.int (nI t_length), .ref tA_text, .int (nI t_at_1), .int (nI t_begin_2), .int t_told_3, .ref tA_is, .ref tA_doings, .ref tA_doing, .int t_items_4, .ref tA_row, .ref tA_isKept, .int t_when, .int t_most, .int t_mostAt, .int t_hiss, .ref tA_best, .ref tA_heats, .ref tA_orders, .ref tA_has, .int (nI t_tests), .ref tA_salt, .ref tA_crumbs, .long t_traced, .int t_hasSkin_5, .int t_hasBend_6])), (tA_text, .inl (g.2.1 2, 300, .inl t_text)), (tA_is, .inl (g.2.1 0, 18, .inl t_is_14)), (tA_doings, .inl (g.2.1 0, 2, .inl t_doings_16)), (tA_doing, .inl (g.2.1 0, 72, .inl t_doing_17)), (tA_row, .inl (g.2.1 0, 80, .inl t_row_19)), (tA_isKept, .inl (g.2.1 1, 2, .inl t_isKept_23))] H := hP
        have hD : va_D A [(tA, .inr (5, [.int (nI t_length), .ref tA_text, .int (nI t_at_1), .int (nI t_begin_2), .int t_told_3, .ref tA_is, .ref tA_doings, .ref tA_doing, .int t_items_4, .ref tA_row, .ref tA_isKept, .int t_when, .int t_most, .int t_mostAt, .int t_hiss, .ref tA_best, .ref tA_heats, .ref tA_orders, .ref tA_has, .int (nI t_tests), .ref tA_salt, .ref tA_crumbs, .long t_traced, .int t_hasSkin_5, .int t_hasBend_6])), (tA_text, .inl (g.2.1 2, 300, .inl t_text)), (tA_is, .inl (g.2.1 0, 18, .inl t_is_14)), (tA_doings, .inl (g.2.1 0, 2, .inl t_doings_16)), (tA_doing, .inl (g.2.1 0, 72, .inl t_doing_17)), (tA_row, .inl (g.2.1 0, 80, .inl t_row_19)), (tA_isKept, .inl (g.2.1 1, 2, .inl t_isKept_23))] := hD
        have E := x_nm_eq E hf
        refine lv_aload_n hx hb dX5_sausage_103 rfl (lv_at hl 0 rfl) ?_
        refine lv_iconst (v := 0) hx hb dX5_sausage_104 (by decide) ?_
        refine va_put (ci := 5) (v := .int 0) (ty := .int) (C := RX5) (T := TX5) (N := 25) hx hb hts inlX5 tyX5 tyX5_ok nmX5 hown hK.1 hP hD hS 0 rfl rfl 0 (by decide) (hts _ kw_128) (fun _ h9 => h9) rfl (tyX5_ok 0 (by decide)) rfl rfl (Nat.le_of_ble_eq_true rfl) dX5_sausage_105 (fun H locs hP hD hS => ?_)
        have hP : va_P g.1 vwCl [(tA, .inr (5, [.int 0, .ref tA_text, .int (nI t_at_1), .int (nI t_begin_2), .int t_told_3, .ref tA_is, .ref tA_doings, .ref tA_doing, .int t_items_4, .ref tA_row, .ref tA_isKept, .int t_when, .int t_most, .int t_mostAt, .int t_hiss, .ref tA_best, .ref tA_heats, .ref tA_orders, .ref tA_has, .int (nI t_tests), .ref tA_salt, .ref tA_crumbs, .long t_traced, .int t_hasSkin_5, .int t_hasBend_6])), (tA_text, .inl (g.2.1 2, 300, .inl t_text)), (tA_is, .inl (g.2.1 0, 18, .inl t_is_14)), (tA_doings, .inl (g.2.1 0, 2, .inl t_doings_16)), (tA_doing, .inl (g.2.1 0, 72, .inl t_doing_17)), (tA_row, .inl (g.2.1 0, 80, .inl t_row_19)), (tA_isKept, .inl (g.2.1 1, 2, .inl t_isKept_23))] H := hP
        have hD : va_D A [(tA, .inr (5, [.int 0, .ref tA_text, .int (nI t_at_1), .int (nI t_begin_2), .int t_told_3, .ref tA_is, .ref tA_doings, .ref tA_doing, .int t_items_4, .ref tA_row, .ref tA_isKept, .int t_when, .int t_most, .int t_mostAt, .int t_hiss, .ref tA_best, .ref tA_heats, .ref tA_orders, .ref tA_has, .int (nI t_tests), .ref tA_salt, .ref tA_crumbs, .long t_traced, .int t_hasSkin_5, .int t_hasBend_6])), (tA_text, .inl (g.2.1 2, 300, .inl t_text)), (tA_is, .inl (g.2.1 0, 18, .inl t_is_14)), (tA_doings, .inl (g.2.1 0, 2, .inl t_doings_16)), (tA_doing, .inl (g.2.1 0, 72, .inl t_doing_17)), (tA_row, .inl (g.2.1 0, 80, .inl t_row_19)), (tA_isKept, .inl (g.2.1 1, 2, .inl t_isKept_23))] := hD
        refine lv_aload_n hx hb dX5_sausage_108 rfl (lv_at hl 0 rfl) ?_
        refine va_get (ci := 5) (v := .int t_items_4) (C := RX5) (T := TX5) (N := 25) hx hb hts inlX5 hown hK.1 hP 0 rfl rfl 8 (by decide) (hts _ kw_281) (fun _ h9 => h9) rfl dX5_sausage_109 ?_
        exact RET t_items_4 (0, t_at_1, t_begin_2, t_told_3, t_items_4, t_hasSkin_5, t_hasBend_6, t_is_14, t_doings_16, t_doing_17, t_row_19, t_isKept_23) H locs _ _ (E.symm.trans hO) rfl hP hD hS dX5_sausage_112
      have E := E_18
      have L_26 : ∀ (n_26 : Nat) (k2_24 : Nat) (t_doing_25 : Nat → Int32), (k2_24 ≤ 36) → ((36 - k2_24) < n_26) → o_18 = F_X5_sausage_L57 n_26 k2_24 t_doing_25 → ∀ (H : Heap) (locs : List Loc) (ls : Array Slot), va_P g.1 vwCl [(tA, .inr (5, [.int (nI t_length), .ref tA_text, .int (nI t_at_1), .int (nI t_begin_2), .int t_told_3, .ref tA_is, .ref tA_doings, .ref tA_doing, .int t_items_4, .ref tA_row, .ref tA_isKept, .int t_when, .int t_most, .int t_mostAt, .int t_hiss, .ref tA_best, .ref tA_heats, .ref tA_orders, .ref tA_has, .int (nI t_tests), .ref tA_salt, .ref tA_crumbs, .long t_traced, .int t_hasSkin_5, .int t_hasBend_6])), (tA_text, .inl (g.2.1 2, 300, .inl t_text)), (tA_is, .inl (g.2.1 0, 18, .inl t_is_14)), (tA_doings, .inl (g.2.1 0, 2, .inl t_doings_16)), (tA_doing, .inl (g.2.1 0, 72, .inl t_doing_25)), (tA_row, .inl (g.2.1 0, 80, .inl t_row)), (tA_isKept, .inl (g.2.1 1, 2, .inl t_isKept))] H → va_D A [(tA, .inr (5, [.int (nI t_length), .ref tA_text, .int (nI t_at_1), .int (nI t_begin_2), .int t_told_3, .ref tA_is, .ref tA_doings, .ref tA_doing, .int t_items_4, .ref tA_row, .ref tA_isKept, .int t_when, .int t_most, .int t_mostAt, .int t_hiss, .ref tA_best, .ref tA_heats, .ref tA_orders, .ref tA_has, .int (nI t_tests), .ref tA_salt, .ref tA_crumbs, .long t_traced, .int t_hasSkin_5, .int t_hasBend_6])), (tA_text, .inl (g.2.1 2, 300, .inl t_text)), (tA_is, .inl (g.2.1 0, 18, .inl t_is_14)), (tA_doings, .inl (g.2.1 0, 2, .inl t_doings_16)), (tA_doing, .inl (g.2.1 0, 72, .inl t_doing_25)), (tA_row, .inl (g.2.1 0, 80, .inl t_row)), (tA_isKept, .inl (g.2.1 1, 2, .inl t_isKept))] → va_S A s.heap H locs → lv_has ls 3 [(0, .ref tA), (2, .int (nI k2_24))] → W p l e rX5_sausage s m args below meth c H locs 0 0 Q (F0 m 57 ls []) := by
        intro n_26
        induction n_26 with
        | zero => intro k2_24 t_doing_25 i_26_0 i_26_1; exact absurd i_26_1 (by omega)
        | succ n_26 ih_26 =>
          intro k2_24 t_doing_25 i_26_0 i_26_1 E H locs ls hP hD hS hl
          rw [F_X5_sausage_L57.eq_2] at E
          refine lv_iload_n hx hb dX5_sausage_57 rfl (lv_at hl 1 rfl) ?_
          refine lv_bipush (v := 36) hx hb dX5_sausage_58 (by decide) ?_
          refine x_icmp_ge (a := k2_24) (b := 36) (tgt := 84) hx hb (by omega) (by omega) dX5_sausage_60 (by decide) (fun c_27 => ?_) (fun c_27 => ?_)
          · have E := x_pos E c_27
            exact J_18 t_doing_25 E  H locs ls hP hD hS (lv_sub hl [0] rfl)
          · have E := x_neg E c_27
            refine lv_aload_n hx hb dX5_sausage_63 rfl (lv_at hl 0 rfl) ?_
            refine va_get (ci := 5) (v := .ref tA_doing) (C := RX5) (T := TX5) (N := 25) hx hb hts inlX5 hown hK.1 hP 0 rfl rfl 7 (by decide) (hts _ kw_96) (fun _ h9 => h9) rfl dX5_sausage_64 ?_
            refine lv_iload_n hx hb dX5_sausage_67 rfl (lv_at hl 1 rfl) ?_
            refine lv_aload_n hx hb dX5_sausage_68 rfl (lv_at hl 0 rfl) ?_
            refine va_get (ci := 5) (v := .ref tA_doing) (C := RX5) (T := TX5) (N := 25) hx hb hts inlX5 hown hK.1 hP 0 rfl rfl 7 (by decide) (hts _ kw_96) (fun _ h9 => h9) rfl dX5_sausage_69 ?_
            refine lv_bipush (v := 36) hx hb dX5_sausage_72 (by decide) ?_
            refine lv_iload_n hx hb dX5_sausage_74 rfl (lv_at hl 1 rfl) ?_
            refine lv_iadd hx hb dX5_sausage_75 ?_
            refine x_eqi (nI_add 36 k2_24) ?_
            refine x_ialdN hx hb hK hP 4 (36 + k2_24) rfl (by omega) (by decide) dX5_sausage_76 ?_
            refine x_iastN hx hb hK hP hD hS 4 k2_24 rfl (by omega) (by decide) dX5_sausage_77 (fun t_doing_28 H locs hf hP hD hS => ?_)
            have hP : va_P g.1 vwCl [(tA, .inr (5, [.int (nI t_length), .ref tA_text, .int (nI t_at_1), .int (nI t_begin_2), .int t_told_3, .ref tA_is, .ref tA_doings, .ref tA_doing, .int t_items_4, .ref tA_row, .ref tA_isKept, .int t_when, .int t_most, .int t_mostAt, .int t_hiss, .ref tA_best, .ref tA_heats, .ref tA_orders, .ref tA_has, .int (nI t_tests), .ref tA_salt, .ref tA_crumbs, .long t_traced, .int t_hasSkin_5, .int t_hasBend_6])), (tA_text, .inl (g.2.1 2, 300, .inl t_text)), (tA_is, .inl (g.2.1 0, 18, .inl t_is_14)), (tA_doings, .inl (g.2.1 0, 2, .inl t_doings_16)), (tA_doing, .inl (g.2.1 0, 72, .inl t_doing_28)), (tA_row, .inl (g.2.1 0, 80, .inl t_row)), (tA_isKept, .inl (g.2.1 1, 2, .inl t_isKept))] H := hP
            have hD : va_D A [(tA, .inr (5, [.int (nI t_length), .ref tA_text, .int (nI t_at_1), .int (nI t_begin_2), .int t_told_3, .ref tA_is, .ref tA_doings, .ref tA_doing, .int t_items_4, .ref tA_row, .ref tA_isKept, .int t_when, .int t_most, .int t_mostAt, .int t_hiss, .ref tA_best, .ref tA_heats, .ref tA_orders, .ref tA_has, .int (nI t_tests), .ref tA_salt, .ref tA_crumbs, .long t_traced, .int t_hasSkin_5, .int t_hasBend_6])), (tA_text, .inl (g.2.1 2, 300, .inl t_text)), (tA_is, .inl (g.2.1 0, 18, .inl t_is_14)), (tA_doings, .inl (g.2.1 0, 2, .inl t_doings_16)), (tA_doing, .inl (g.2.1 0, 72, .inl t_doing_28)), (tA_row, .inl (g.2.1 0, 80, .inl t_row)), (tA_isKept, .inl (g.2.1 1, 2, .inl t_isKept))] := hD
            have E := x_nm_eq E hf
            refine lv_iinc (v := nI (k2_24 + 1)) (lv' := [(2, .int (nI (k2_24 + 1))), (0, .ref tA)]) hx hb dX5_sausage_78 hl (k := 1) rfl (nI_1 k2_24) (by decide) rfl (fun ls hl => ?_)
            refine lv_goto (tgt := 57) hx hb dX5_sausage_81 (by decide) ?_
            exact ih_26 (k2_24 + 1) t_doing_28 (by first | omega | assumption | exact Eq.trans (by assumption) (by assumption)) (by omega) E H locs ls hP hD hS (lv_sub hl [1, 0] rfl)
      exact L_26 (36 + 1) 0 t_doing_9 (by first | omega | assumption | rfl) (by omega) E H locs ls hP hD hS (lv_sub hl [1, 0] rfl)
    have E := E_15
    have L_31 : ∀ (n_31 : Nat) (k2_29 : Nat) (t_is_30 : Nat → Int32), (k2_29 ≤ 9) → ((9 - k2_29) < n_31) → o_15 = F_X5_sausage_L16 n_31 k2_29 t_is_30 → ∀ (H : Heap) (locs : List Loc) (ls : Array Slot), va_P g.1 vwCl [(tA, .inr (5, [.int (nI t_length), .ref tA_text, .int (nI t_at_1), .int (nI t_begin_2), .int t_told_3, .ref tA_is, .ref tA_doings, .ref tA_doing, .int t_items_4, .ref tA_row, .ref tA_isKept, .int t_when, .int t_most, .int t_mostAt, .int t_hiss, .ref tA_best, .ref tA_heats, .ref tA_orders, .ref tA_has, .int (nI t_tests), .ref tA_salt, .ref tA_crumbs, .long t_traced, .int t_hasSkin_5, .int t_hasBend_6])), (tA_text, .inl (g.2.1 2, 300, .inl t_text)), (tA_is, .inl (g.2.1 0, 18, .inl t_is_30)), (tA_doings, .inl (g.2.1 0, 2, .inl t_doings_8)), (tA_doing, .inl (g.2.1 0, 72, .inl t_doing_9)), (tA_row, .inl (g.2.1 0, 80, .inl t_row)), (tA_isKept, .inl (g.2.1 1, 2, .inl t_isKept))] H → va_D A [(tA, .inr (5, [.int (nI t_length), .ref tA_text, .int (nI t_at_1), .int (nI t_begin_2), .int t_told_3, .ref tA_is, .ref tA_doings, .ref tA_doing, .int t_items_4, .ref tA_row, .ref tA_isKept, .int t_when, .int t_most, .int t_mostAt, .int t_hiss, .ref tA_best, .ref tA_heats, .ref tA_orders, .ref tA_has, .int (nI t_tests), .ref tA_salt, .ref tA_crumbs, .long t_traced, .int t_hasSkin_5, .int t_hasBend_6])), (tA_text, .inl (g.2.1 2, 300, .inl t_text)), (tA_is, .inl (g.2.1 0, 18, .inl t_is_30)), (tA_doings, .inl (g.2.1 0, 2, .inl t_doings_8)), (tA_doing, .inl (g.2.1 0, 72, .inl t_doing_9)), (tA_row, .inl (g.2.1 0, 80, .inl t_row)), (tA_isKept, .inl (g.2.1 1, 2, .inl t_isKept))] → va_S A s.heap H locs → lv_has ls 3 [(0, .ref tA), (2, .int (nI k2_29))] → W p l e rX5_sausage s m args below meth c H locs 0 0 Q (F0 m 16 ls []) := by
      intro n_31
      induction n_31 with
      | zero => intro k2_29 t_is_30 i_31_0 i_31_1; exact absurd i_31_1 (by omega)
      | succ n_31 ih_31 =>
        intro k2_29 t_is_30 i_31_0 i_31_1 E H locs ls hP hD hS hl
        rw [F_X5_sausage_L16.eq_2] at E
        refine lv_iload_n hx hb dX5_sausage_16 rfl (lv_at hl 1 rfl) ?_
        refine lv_bipush (v := 9) hx hb dX5_sausage_17 (by decide) ?_
        refine x_icmp_ge (a := k2_29) (b := 9) (tgt := 43) hx hb (by omega) (by omega) dX5_sausage_19 (by decide) (fun c_32 => ?_) (fun c_32 => ?_)
        · have E := x_pos E c_32
          exact J_15 t_is_30 E  H locs ls hP hD hS (lv_sub hl [0] rfl)
        · have E := x_neg E c_32
          refine lv_aload_n hx hb dX5_sausage_22 rfl (lv_at hl 0 rfl) ?_
          refine va_get (ci := 5) (v := .ref tA_is) (C := RX5) (T := TX5) (N := 25) hx hb hts inlX5 hown hK.1 hP 0 rfl rfl 5 (by decide) (hts _ kw_94) (fun _ h9 => h9) rfl dX5_sausage_23 ?_
          refine lv_iload_n hx hb dX5_sausage_26 rfl (lv_at hl 1 rfl) ?_
          refine lv_aload_n hx hb dX5_sausage_27 rfl (lv_at hl 0 rfl) ?_
          refine va_get (ci := 5) (v := .ref tA_is) (C := RX5) (T := TX5) (N := 25) hx hb hts inlX5 hown hK.1 hP 0 rfl rfl 5 (by decide) (hts _ kw_94) (fun _ h9 => h9) rfl dX5_sausage_28 ?_
          refine lv_bipush (v := 9) hx hb dX5_sausage_31 (by decide) ?_
          refine lv_iload_n hx hb dX5_sausage_33 rfl (lv_at hl 1 rfl) ?_
          refine lv_iadd hx hb dX5_sausage_34 ?_
          refine x_eqi (nI_add 9 k2_29) ?_
          refine x_ialdN hx hb hK hP 2 (9 + k2_29) rfl (by omega) (by decide) dX5_sausage_35 ?_
          refine x_iastN hx hb hK hP hD hS 2 k2_29 rfl (by omega) (by decide) dX5_sausage_36 (fun t_is_33 H locs hf hP hD hS => ?_)
          have hP : va_P g.1 vwCl [(tA, .inr (5, [.int (nI t_length), .ref tA_text, .int (nI t_at_1), .int (nI t_begin_2), .int t_told_3, .ref tA_is, .ref tA_doings, .ref tA_doing, .int t_items_4, .ref tA_row, .ref tA_isKept, .int t_when, .int t_most, .int t_mostAt, .int t_hiss, .ref tA_best, .ref tA_heats, .ref tA_orders, .ref tA_has, .int (nI t_tests), .ref tA_salt, .ref tA_crumbs, .long t_traced, .int t_hasSkin_5, .int t_hasBend_6])), (tA_text, .inl (g.2.1 2, 300, .inl t_text)), (tA_is, .inl (g.2.1 0, 18, .inl t_is_33)), (tA_doings, .inl (g.2.1 0, 2, .inl t_doings_8)), (tA_doing, .inl (g.2.1 0, 72, .inl t_doing_9)), (tA_row, .inl (g.2.1 0, 80, .inl t_row)), (tA_isKept, .inl (g.2.1 1, 2, .inl t_isKept))] H := hP
          have hD : va_D A [(tA, .inr (5, [.int (nI t_length), .ref tA_text, .int (nI t_at_1), .int (nI t_begin_2), .int t_told_3, .ref tA_is, .ref tA_doings, .ref tA_doing, .int t_items_4, .ref tA_row, .ref tA_isKept, .int t_when, .int t_most, .int t_mostAt, .int t_hiss, .ref tA_best, .ref tA_heats, .ref tA_orders, .ref tA_has, .int (nI t_tests), .ref tA_salt, .ref tA_crumbs, .long t_traced, .int t_hasSkin_5, .int t_hasBend_6])), (tA_text, .inl (g.2.1 2, 300, .inl t_text)), (tA_is, .inl (g.2.1 0, 18, .inl t_is_33)), (tA_doings, .inl (g.2.1 0, 2, .inl t_doings_8)), (tA_doing, .inl (g.2.1 0, 72, .inl t_doing_9)), (tA_row, .inl (g.2.1 0, 80, .inl t_row)), (tA_isKept, .inl (g.2.1 1, 2, .inl t_isKept))] := hD
          have E := x_nm_eq E hf
          refine lv_iinc (v := nI (k2_29 + 1)) (lv' := [(2, .int (nI (k2_29 + 1))), (0, .ref tA)]) hx hb dX5_sausage_37 hl (k := 1) rfl (nI_1 k2_29) (by decide) rfl (fun ls hl => ?_)
          refine lv_goto (tgt := 16) hx hb dX5_sausage_40 (by decide) ?_
          exact ih_31 (k2_29 + 1) t_is_33 (by first | omega | assumption | exact Eq.trans (by assumption) (by assumption)) (by omega) E H locs ls hP hD hS (lv_sub hl [1, 0] rfl)
    exact L_31 (9 + 1) 0 t_is_7 (by first | omega | assumption | rfl) (by omega) E H locs ls hP hD hS (lv_sub hl [2, 0] rfl)
  · have E := x_neg E c_13
    refine lv_bipush (v := (-10)) hx hb dX5_sausage_9 (by decide) ?_
    refine lv_iload_n hx hb dX5_sausage_11 rfl (lv_at hl 0 rfl) ?_
    refine lv_isub hx hb dX5_sausage_12 ?_
    exact RET ((-10) - z_10) (t_length, t_at_1, t_begin_2, t_told_3, t_items_4, t_hasSkin_5, t_hasBend_6, t_is_7, t_doings_8, t_doing_9, t_row, t_isKept) H locs _ _ (E.symm.trans hO) rfl hP hD hS dX5_sausage_13
