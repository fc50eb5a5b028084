abbrev rX5_allSeconds : Room := { frames := 0, cells := 0, slots := 0, locals := 0 }
theorem vX5_allSeconds : yX5_allSeconds.cls = RX5 ∧ yX5_allSeconds.cls ≠ "java/lang/invoke/MethodHandle" ∧ yX5_allSeconds.cls ≠ "java/lang/invoke/VarHandle" ∧ (parseMethodDescriptor yX5_allSeconds.desc).map (fun d => d.parameters.length) = some 0 := by decide +kernel
abbrev wX5_allSeconds : List Cond := Cond.code yX5_allSeconds cX5_allSeconds 3 (some .int) :: wsL_law
def F_X5_allSeconds_L4 (t_doings : Nat → Int32) (t_doing : Nat → Int32) : Nat → Int32 → Nat → Int32
  | 0, l1_3, k2_4 => l1_3
  | n_5 + 1, l1_3, k2_4 => if ((t_doings 0).toNatClampNeg) ≤ k2_4 then l1_3 else F_X5_allSeconds_L4 t_doings t_doing n_5 (l1_3 + (t_doing ((3 * k2_4) + 2))) (k2_4 + 1)
def F_X5_allSeconds (t_doings : Nat → Int32) (t_doing : Nat → Int32) : Int32 :=
  x_nm (α := Int32) (F_X5_allSeconds_L4 t_doings t_doing ((t_doings 0).toNatClampNeg + 1) 0 0) fun u_2 => u_2
set_option maxHeartbeats 4000000 in
set_option maxRecDepth 100000 in
theorem m_X5_allSeconds (l : Launch) (g : x_G) (tA tA_doings tA_doing tA_text tA_is tA_row tA_isKept tA_best tA_heats tA_orders tA_has tA_salt tA_crumbs : Nat) (t_length : Nat) (t_at : Nat) (t_begin : Nat) (t_told : Int32) (t_items : Int32) (t_when : Int32) (t_most : Int32) (t_mostAt : Int32) (t_hiss : Int32) (t_tests : Nat) (t_traced : Int64) (t_hasSkin : Int32) (t_hasBend : Int32) (t_doings : Nat → Int32) (t_doing : Nat → Int32) (h_0 : (t_doings 0).toNatClampNeg ≤ 12) (h_1 : t_doings 0 = nI (t_doings 0).toNatClampNeg) : x_MetI l yX5_allSeconds wX5_allSeconds rX5_allSeconds g [.ref tA] [(tA, .inr (5, [.int (nI t_length), .ref tA_text, .int (nI t_at), .int (nI t_begin), .int t_told, .ref tA_is, .ref tA_doings, .ref tA_doing, .int t_items, .ref tA_row, .ref tA_isKept, .int t_when, .int t_most, .int t_mostAt, .int t_hiss, .ref tA_best, .ref tA_heats, .ref tA_orders, .ref tA_has, .int (nI t_tests), .ref tA_salt, .ref tA_crumbs, .long t_traced, .int t_hasSkin, .int t_hasBend])), (tA_doings, .inl (g.2.1 0, 2, .inl t_doings)), (tA_doing, .inl (g.2.1 0, 72, .inl t_doing))] (fun (r : Int32) (u : Unit) => r = F_X5_allSeconds t_doings t_doing) (fun _ => [(tA, .inr (5, [.int (nI t_length), .ref tA_text, .int (nI t_at), .int (nI t_begin), .int t_told, .ref tA_is, .ref tA_doings, .ref tA_doing, .int t_items, .ref tA_row, .ref tA_isKept, .int t_when, .int t_most, .int t_mostAt, .int t_hiss, .ref tA_best, .ref tA_heats, .ref tA_orders, .ref tA_has, .int (nI t_tests), .ref tA_salt, .ref tA_crumbs, .long t_traced, .int t_hasSkin, .int t_hasBend])), (tA_doings, .inl (g.2.1 0, 2, .inl t_doings)), (tA_doing, .inl (g.2.1 0, 72, .inl t_doing))]) := by
  refine x_startI (cc := cX5_allSeconds) (maxL := 3) (by decide) rfl (Nat.le_of_ble_eq_true rfl) ?_
  intro p e s m args below meth c Q A ls H locs hx hb hml hown hts hK hX hP hD hS hA hl RET
  have hown : s.vm.findClass RX5 = some m.cls := hown
  have hl : lv_has ls 3 [(0, .ref tA)] := hl
  obtain ⟨o_0, hO⟩ : ∃ z, z = F_X5_allSeconds t_doings t_doing := ⟨_, rfl⟩
  have E := hO
  rw [F_X5_allSeconds.eq_1] at E
  refine lv_iconst (v := 0) hx hb dX5_allSeconds_0 (by decide) ?_
  refine lv_istore_n (lv' := [(1, .int 0), (0, .ref tA)]) hx hb dX5_allSeconds_1 rfl hl (by decide) rfl (fun ls hl => ?_)
  refine lv_iconst (v := 0) hx hb dX5_allSeconds_2 (by decide) ?_
  refine lv_istore_n (lv' := [(2, .int 0), (1, .int 0), (0, .ref tA)]) hx hb dX5_allSeconds_3 rfl hl (by decide) rfl (fun ls hl => ?_)
  obtain ⟨o_2, E_2, E⟩ := x_nm_ex E
  have J_2 : ∀ (l1_1 : Int32), o_2 = l1_1 → ∀ (H : Heap) (locs : List Loc) (ls : Array Slot), va_P g.1 vwCl [(tA, .inr (5, [.int (nI t_length), .ref tA_text, .int (nI t_at), .int (nI t_begin), .int t_told, .ref tA_is, .ref tA_doings, .ref tA_doing, .int t_items, .ref tA_row, .ref tA_isKept, .int t_when, .int t_most, .int t_mostAt, .int t_hiss, .ref tA_best, .ref tA_heats, .ref tA_orders, .ref tA_has, .int (nI t_tests), .ref tA_salt, .ref tA_crumbs, .long t_traced, .int t_hasSkin, .int t_hasBend])), (tA_doings, .inl (g.2.1 0, 2, .inl t_doings)), (tA_doing, .inl (g.2.1 0, 72, .inl t_doing))] H → va_D A [(tA, .inr (5, [.int (nI t_length), .ref tA_text, .int (nI t_at), .int (nI t_begin), .int t_told, .ref tA_is, .ref tA_doings, .ref tA_doing, .int t_items, .ref tA_row, .ref tA_isKept, .int t_when, .int t_most, .int t_mostAt, .int t_hiss, .ref tA_best, .ref tA_heats, .ref tA_orders, .ref tA_has, .int (nI t_tests), .ref tA_salt, .ref tA_crumbs, .long t_traced, .int t_hasSkin, .int t_hasBend])), (tA_doings, .inl (g.2.1 0, 2, .inl t_doings)), (tA_doing, .inl (g.2.1 0, 72, .inl t_doing))] → va_S A s.heap H locs → lv_has ls 3 [(1, .int l1_1)] → W p l e rX5_allSeconds s m args below meth c H locs 0 0 Q (F0 m 33 ls []) := by
    intro l1_1 hE  H locs ls hP hD hS hl
    try rw [hE] at E
    refine lv_iload_n hx hb dX5_allSeconds_33 rfl (lv_at hl 0 rfl) ?_
    exact RET l1_1 () H locs _ _ (E.symm.trans hO) rfl hP hD hS dX5_allSeconds_34
  have E := E_2
  have L_5 : ∀ (n_5 : Nat) (l1_3 : Int32) (k2_4 : Nat), (k2_4 ≤ (t_doings 0).toNatClampNeg) → (((t_doings 0).toNatClampNeg - k2_4) < n_5) → o_2 = F_X5_allSeconds_L4 t_doings t_doing n_5 l1_3 k2_4 → ∀ (H : Heap) (locs : List Loc) (ls : Array Slot), va_P g.1 vwCl [(tA, .inr (5, [.int (nI t_length), .ref tA_text, .int (nI t_at), .int (nI t_begin), .int t_told, .ref tA_is, .ref tA_doings, .ref tA_doing, .int t_items, .ref tA_row, .ref tA_isKept, .int t_when, .int t_most, .int t_mostAt, .int t_hiss, .ref tA_best, .ref tA_heats, .ref tA_orders, .ref tA_has, .int (nI t_tests), .ref tA_salt, .ref tA_crumbs, .long t_traced, .int t_hasSkin, .int t_hasBend])), (tA_doings, .inl (g.2.1 0, 2, .inl t_doings)), (tA_doing, .inl (g.2.1 0, 72, .inl t_doing))] H → va_D A [(tA, .inr (5, [.int (nI t_length), .ref tA_text, .int (nI t_at), .int (nI t_begin), .int t_told, .ref tA_is, .ref tA_doings, .ref tA_doing, .int t_items, .ref tA_row, .ref tA_isKept, .int t_when, .int t_most, .int t_mostAt, .int t_hiss, .ref tA_best, .ref tA_heats, .ref tA_orders, .ref tA_has, .int (nI t_tests), .ref tA_salt, .ref tA_crumbs, .long t_traced, .int t_hasSkin, .int t_hasBend])), (tA_doings, .inl (g.2.1 0, 2, .inl t_doings)), (tA_doing, .inl (g.2.1 0, 72, .inl t_doing))] → va_S A s.heap H locs → lv_has ls 3 [(0, .ref tA), (1, .int l1_3), (2, .int (nI k2_4))] → W p l e rX5_allSeconds s m args below meth c H locs 0 0 Q (F0 m 4 ls []) := by
    intro n_5
    induction n_5 with
    | zero => intro l1_3 k2_4 i_5_0 i_5_1; exact absurd i_5_1 (by omega)
    | succ n_5 ih_5 =>
      intro l1_3 k2_4 i_5_0 i_5_1 E H locs ls hP hD hS hl
      rw [F_X5_allSeconds_L4.eq_2] at E
      refine lv_iload_n hx hb dX5_allSeconds_4 rfl (lv_at hl 2 rfl) ?_
      refine lv_aload_n hx hb dX5_allSeconds_5 rfl (lv_at hl 0 rfl) ?_
      refine va_get (ci := 5) (v := .ref tA_doings) (C := RX5) (T := TX5) (N := 25) hx hb hts inlX5 hown hK.1 hP 0 rfl rfl 6 (by decide) (hts _ kw_95) (fun _ h9 => h9) rfl dX5_allSeconds_6 ?_
      refine lv_iconst (v := 0) hx hb dX5_allSeconds_9 (by decide) ?_
      refine x_ialdN hx hb hK hP 1 0 rfl (by omega) (by decide) dX5_allSeconds_10 ?_
      refine x_eqi (h_1) ?_
      refine x_icmp_ge (a := k2_4) (b := ((t_doings 0).toNatClampNeg)) (tgt := 33) hx hb (by omega) (by omega) dX5_allSeconds_11 (by decide) (fun c_6 => ?_) (fun c_6 => ?_)
      · have E := x_pos E c_6
        exact J_2 l1_3 E  H locs ls hP hD hS (lv_sub hl [1] rfl)
      · have E := x_neg E c_6
        refine lv_iload_n hx hb dX5_allSeconds_14 rfl (lv_at hl 1 rfl) ?_
        refine lv_aload_n hx hb dX5_allSeconds_15 rfl (lv_at hl 0 rfl) ?_
        refine va_get (ci := 5) (v := .ref tA_doing) (C := RX5) (T := TX5) (N := 25) hx hb hts inlX5 hown hK.1 hP 0 rfl rfl 7 (by decide) (hts _ kw_96) (fun _ h9 => h9) rfl dX5_allSeconds_16 ?_
        refine lv_iconst (v := 3) hx hb dX5_allSeconds_19 (by decide) ?_
        refine lv_iload_n hx hb dX5_allSeconds_20 rfl (lv_at hl 2 rfl) ?_
        refine lv_imul hx hb dX5_allSeconds_21 ?_
        refine x_eqi (pk_mul 3 k2_4) ?_
        refine lv_iconst (v := 2) hx hb dX5_allSeconds_22 (by decide) ?_
        refine lv_iadd hx hb dX5_allSeconds_23 ?_
        refine x_eqi (nI_add (3 * k2_4) 2) ?_
        refine x_ialdN hx hb hK hP 2 ((3 * k2_4) + 2) rfl (by omega) (by decide) dX5_allSeconds_24 ?_
        refine lv_iadd hx hb dX5_allSeconds_25 ?_
        refine lv_istore_n (lv' := [(1, .int (l1_3 + (t_doing ((3 * k2_4) + 2)))), (0, .ref tA), (2, .int (nI k2_4))]) hx hb dX5_allSeconds_26 rfl hl (by decide) rfl (fun ls hl => ?_)
        refine lv_iinc (v := nI (k2_4 + 1)) (lv' := [(2, .int (nI (k2_4 + 1))), (1, .int (l1_3 + (t_doing ((3 * k2_4) + 2)))), (0, .ref tA)]) hx hb dX5_allSeconds_27 hl (k := 2) rfl (nI_1 k2_4) (by decide) rfl (fun ls hl => ?_)
        refine lv_goto (tgt := 4) hx hb dX5_allSeconds_30 (by decide) ?_
        exact ih_5 (l1_3 + (t_doing ((3 * k2_4) + 2))) (k2_4 + 1) (by first | omega | assumption | exact Eq.trans (by assumption) (by assumption)) (by omega) E H locs ls hP hD hS (lv_sub hl [2, 1, 0] rfl)
  exact L_5 ((t_doings 0).toNatClampNeg + 1) 0 0 (by first | omega | assumption | rfl) (by omega) E H locs ls hP hD hS (lv_sub hl [2, 1, 0] rfl)
abbrev rX5_told : Room := { frames := 1, cells := 0, slots := 0, locals := 25 }
theorem vX5_told : yX5_told.cls = RX5 ∧ yX5_told.cls ≠ "java/lang/invoke/MethodHandle" ∧ yX5_told.cls ≠ "java/lang/invoke/VarHandle" ∧ (parseMethodDescriptor yX5_told.desc).map (fun d => d.parameters.length) = some 1 := by decide +kernel
abbrev wX5_told : List Cond := Cond.code yX5_told cX5_told 2 (some .int) :: wsL_law
def F_X5_told (t_is : Nat → Int32) (t_doings : Nat → Int32) (t_doing : Nat → Int32) (a1 : Int32) : Int32 :=
  x_nm (F_X5_in a1.toInt64 0 10) fun z_1 => x_nm (α := Int32) (if z_1 = 0 then (-1) else x_nm (a1.toNatClampNeg) fun j_9 => if 9 ≤ j_9 then if j_9 = 9 then t_doings 0 else x_nm (F_X5_allSeconds t_doings t_doing) fun z_12 => z_12 else t_is j_9) fun u_6 => u_6
set_option maxHeartbeats 4000000 in
set_option maxRecDepth 100000 in
theorem m_X5_told (l : Launch) (g : x_G) (tA tA_is tA_doings tA_doing tA_text tA_row tA_isKept tA_best tA_heats tA_orders tA_has tA_salt tA_crumbs : Nat) (t_length : Nat) (t_at : Nat) (t_begin : Nat) (t_told : Int32) (t_items : Int32) (t_when : Int32) (t_most : Int32) (t_mostAt : Int32) (t_hiss : Int32) (t_tests : Nat) (t_traced : Int64) (t_hasSkin : Int32) (t_hasBend : Int32) (t_is : Nat → Int32) (t_doings : Nat → Int32) (t_doing : Nat → Int32) (a1 : Int32) (h_0 : (t_doings 0).toNatClampNeg ≤ 12) (h_1 : t_doings 0 = nI (t_doings 0).toNatClampNeg) : x_MetI l yX5_told wX5_told rX5_told g [.ref tA, .int a1] [(tA, .inr (5, [.int (nI t_length), .ref tA_text, .int (nI t_at), .int (nI t_begin), .int t_told, .ref tA_is, .ref tA_doings, .ref tA_doing, .int t_items, .ref tA_row, .ref tA_isKept, .int t_when, .int t_most, .int t_mostAt, .int t_hiss, .ref tA_best, .ref tA_heats, .ref tA_orders, .ref tA_has, .int (nI t_tests), .ref tA_salt, .ref tA_crumbs, .long t_traced, .int t_hasSkin, .int t_hasBend])), (tA_is, .inl (g.2.1 0, 18, .inl t_is)), (tA_doings, .inl (g.2.1 0, 2, .inl t_doings)), (tA_doing, .inl (g.2.1 0, 72, .inl t_doing))] (fun (r : Int32) (u : Unit) => r = F_X5_told t_is t_doings t_doing a1) (fun _ => [(tA, .inr (5, [.int (nI t_length), .ref tA_text, .int (nI t_at), .int (nI t_begin), .int t_told, .ref tA_is, .ref tA_doings, .ref tA_doing, .int t_items, .ref tA_row, .ref tA_isKept, .int t_when, .int t_most, .int t_mostAt, .int t_hiss, .ref tA_best, .ref tA_heats, .ref tA_orders, .ref tA_has, .int (nI t_tests), .ref tA_salt, .ref tA_crumbs, .long t_traced, .int t_hasSkin, .int t_hasBend])), (tA_is, .inl (g.2.1 0, 18, .inl t_is)), (tA_doings, .inl (g.2.1 0, 2, .inl t_doings)), (tA_doing, .inl (g.2.1 0, 72, .inl t_doing))]) := by
  refine x_startI (cc := cX5_told) (maxL := 2) (by decide) rfl (Nat.le_of_ble_eq_true rfl) ?_
  intro p e s m args below meth c Q A ls H locs hx hb hml hown hts hK hX hP hD hS hA hl RET
  have hown : s.vm.findClass RX5 = some m.cls := hown
  have hl : lv_has ls 2 [(0, .ref tA), (1, .int a1)] := hl
  obtain ⟨o_0, hO⟩ : ∃ z, z = F_X5_told t_is t_doings t_doing a1 := ⟨_, rfl⟩
  have E := hO
  rw [F_X5_told.eq_1] at E
  refine lv_iload_n hx hb dX5_told_0 rfl (lv_at hl 1 rfl) ?_
  refine lv_i2l (v := a1.toInt64) hx hb dX5_told_1 rfl ?_
  refine lv_lconst (v := 0) hx hb dX5_told_2 (by decide) ?_
  refine lv_ldc2 (v := 10) hx hb hown (hts _ kw_359) dX5_told_3 ?_
  refine x_callS0 ⟨hx, hb, hml, hown, hts⟩ hK hX hP hD hS hA (m_X5_in l g a1.toInt64 0 10) (va_cwS 3 hts (x_gS kw_129 kw_130 kw_5 kw_131) rfl rfl rfl vX5_inS ⟨Nat.le_of_ble_eq_true rfl, Nat.le_of_ble_eq_true rfl⟩) rfl hl.1 rfl (Nat.le_of_ble_eq_true rfl) dX5_told_6 ⟨Nat.zero_le _, Nat.zero_le _⟩ (fun z_1 _ H locs hw_2 hP hD hS => ?_)
  obtain ⟨hw_2, b_3⟩ := hw_2
  have E := x_nm_eq E hw_2
  obtain ⟨o_6, E_6, E⟩ := x_nm_ex E
  have J_6 : ∀ (v_5 : Int32), o_6 = v_5 → ∀ (H : Heap) (locs : List Loc) (ls : Array Slot), va_P g.1 vwCl [(tA, .inr (5, [.int (nI t_length), .ref tA_text, .int (nI t_at), .int (nI t_begin), .int t_told, .ref tA_is, .ref tA_doings, .ref tA_doing, .int t_items, .ref tA_row, .ref tA_isKept, .int t_when, .int t_most, .int t_mostAt, .int t_hiss, .ref tA_best, .ref tA_heats, .ref tA_orders, .ref tA_has, .int (nI t_tests), .ref tA_salt, .ref tA_crumbs, .long t_traced, .int t_hasSkin, .int t_hasBend])), (tA_is, .inl (g.2.1 0, 18, .inl t_is)), (tA_doings, .inl (g.2.1 0, 2, .inl t_doings)), (tA_doing, .inl (g.2.1 0, 72, .inl t_doing))] H → va_D A [(tA, .inr (5, [.int (nI t_length), .ref tA_text, .int (nI t_at), .int (nI t_begin), .int t_told, .ref tA_is, .ref tA_doings, .ref tA_doing, .int t_items, .ref tA_row, .ref tA_isKept, .int t_when, .int t_most, .int t_mostAt, .int t_hiss, .ref tA_best, .ref tA_heats, .ref tA_orders, .ref tA_has, .int (nI t_tests), .ref tA_salt, .ref tA_crumbs, .long t_traced, .int t_hasSkin, .int t_hasBend])), (tA_is, .inl (g.2.1 0, 18, .inl t_is)), (tA_doings, .inl (g.2.1 0, 2, .inl t_doings)), (tA_doing, .inl (g.2.1 0, 72, .inl t_doing))] → va_S A s.heap H locs → lv_has ls 2 [] → W p l e rX5_told s m args below meth c H locs 0 0 Q (F0 m 50 ls [.int v_5]) := by
    intro v_5 hE  H locs ls hP hD hS hl
    try rw [hE] at E
    exact RET v_5 () H locs _ _ (E.symm.trans hO) rfl hP hD hS dX5_told_50
  have E := E_6
  refine x_if_neI (tgt := 16) hx hb dX5_told_9 (by decide) (fun c_7 => ?_) (fun c_7 => ?_)
  · have E := x_neg E c_7
    obtain ⟨j_9, hj⟩ : ∃ z, z = (a1).toNatClampNeg := ⟨_, rfl⟩
    have r_8_0 := (x_ins (lo := 0) (hi := 10) (by omega) (by omega) (fun q => c_7 (hw_2.trans q)))
    rw [← hj] at r_8_0
    obtain ⟨r_8_0_a, r_8_0_b, e_8_0⟩ := r_8_0
    have E := x_nm_eq E hj
    have hl : lv_has ls 2 [(0, .ref tA), (1, .int (nI j_9))] := by rw [e_8_0] at hl; exact hl
    refine lv_iload_n hx hb dX5_told_16 rfl (lv_at hl 1 rfl) ?_
    refine lv_bipush (v := 9) hx hb dX5_told_17 (by decide) ?_
    refine x_icmp_ge (a := j_9) (b := 9) (tgt := 31) hx hb (by omega) (by omega) dX5_told_19 (by decide) (fun c_10 => ?_) (fun c_10 => ?_)
    · have E := x_pos E c_10
      refine lv_iload_n hx hb dX5_told_31 rfl (lv_at hl 1 rfl) ?_
      refine lv_bipush (v := 9) hx hb dX5_told_32 (by decide) ?_
      refine x_icmp_ne (a := j_9) (b := 9) (tgt := 46) hx hb (by omega) (by omega) dX5_told_34 (by decide) (fun c_11 => ?_) (fun c_11 => ?_)
      · have E := x_neg E c_11
        refine lv_aload_n hx hb dX5_told_46 rfl (lv_at hl 0 rfl) ?_
        refine x_callVi (w2 := fun u => [(tA, .inr (5, [.int (nI t_length), .ref tA_text, .int (nI t_at), .int (nI t_begin), .int t_told, .ref tA_is, .ref tA_doings, .ref tA_doing, .int t_items, .ref tA_row, .ref tA_isKept, .int t_when, .int t_most, .int t_mostAt, .int t_hiss, .ref tA_best, .ref tA_heats, .ref tA_orders, .ref tA_has, .int (nI t_tests), .ref tA_salt, .ref tA_crumbs, .long t_traced, .int t_hasSkin, .int t_hasBend])), (tA_is, .inl (g.2.1 0, 18, .inl t_is)), (tA_doings, .inl (g.2.1 0, 2, .inl t_doings)), (tA_doing, .inl (g.2.1 0, 72, .inl t_doing))]) (wr := [(tA_is, .inl (g.2.1 0, 18, .inl t_is))]) [0, 2, 3] [1] [1, 0, 2, 3] 0 5 ⟨hx, hb, hml, hown, hts⟩ hK hX hP hD hS hA (m_X5_allSeconds l g tA tA_doings tA_doing tA_text tA_is tA_row tA_isKept tA_best tA_heats tA_orders tA_has tA_salt tA_crumbs t_length t_at t_begin t_told t_items t_when t_most t_mostAt t_hiss t_tests t_traced t_hasSkin t_hasBend t_doings t_doing (by first | assumption | omega | exact x_e8 (by assumption) (by assumption)) (by first | assumption | omega | exact x_e8 (by assumption) (by assumption))) (cwV 0 hts (x_gV kw_360 kw_361 kw_362 kw_5 kw_363) rfl rfl rfl vX5_allSeconds ⟨Nat.le_of_ble_eq_true rfl, Nat.le_of_ble_eq_true rfl⟩) rfl rfl rfl rfl rfl rfl rfl (by decide) (fun _ => rfl) rfl rfl hl.1 rfl (Nat.le_of_ble_eq_true rfl) dX5_told_47 ⟨Nat.zero_le _, Nat.zero_le _⟩ (fun z_12 _ H locs hw_13 hP hD hS => ?_)
        have E := x_nm_eq E hw_13
        exact J_6 z_12 E  H locs ls hP hD hS (lv_sub hl [] rfl)
      · have E := x_pos E c_11
        refine lv_aload_n hx hb dX5_told_37 rfl (lv_at hl 0 rfl) ?_
        refine va_get (ci := 5) (v := .ref tA_doings) (C := RX5) (T := TX5) (N := 25) hx hb hts inlX5 hown hK.1 hP 0 rfl rfl 6 (by decide) (hts _ kw_95) (fun _ h9 => h9) rfl dX5_told_38 ?_
        refine lv_iconst (v := 0) hx hb dX5_told_41 (by decide) ?_
        refine x_ialdN hx hb hK hP 2 0 rfl (by omega) (by decide) dX5_told_42 ?_
        refine lv_goto (tgt := 50) hx hb dX5_told_43 (by decide) ?_
        exact J_6 (t_doings 0) E  H locs ls hP hD hS (lv_sub hl [] rfl)
    · have E := x_neg E c_10
      refine lv_aload_n hx hb dX5_told_22 rfl (lv_at hl 0 rfl) ?_
      refine va_get (ci := 5) (v := .ref tA_is) (C := RX5) (T := TX5) (N := 25) hx hb hts inlX5 hown hK.1 hP 0 rfl rfl 5 (by decide) (hts _ kw_94) (fun _ h9 => h9) rfl dX5_told_23 ?_
      refine lv_iload_n hx hb dX5_told_26 rfl (lv_at hl 1 rfl) ?_
      refine x_ialdN hx hb hK hP 1 j_9 rfl (by omega) (by decide) dX5_told_27 ?_
      refine lv_goto (tgt := 50) hx hb dX5_told_28 (by decide) ?_
      exact J_6 (t_is j_9) E  H locs ls hP hD hS (lv_sub hl [] rfl)
  · have E := x_pos E c_7
    refine lv_iconst (v := (-1)) hx hb dX5_told_12 (by decide) ?_
    refine lv_goto (tgt := 50) hx hb dX5_told_13 (by decide) ?_
    exact J_6 (-1) E  H locs ls hP hD hS (lv_sub hl [] rfl)
abbrev rX5_doing : Room := { frames := 1, cells := 0, slots := 0, locals := 25 }
theorem vX5_doing : yX5_doing.cls = RX5 ∧ yX5_doing.cls ≠ "java/lang/invoke/MethodHandle" ∧ yX5_doing.cls ≠ "java/lang/invoke/VarHandle" ∧ (parseMethodDescriptor yX5_doing.desc).map (fun d => d.parameters.length) = some 2 := by decide +kernel
abbrev wX5_doing : List Cond := Cond.code yX5_doing cX5_doing 3 (some .int) :: wsL_law
def F_X5_doing (t_doings : Nat → Int32) (t_doing : Nat → Int32) (a1 : Int32) (a2 : Int32) : Int32 :=
  x_nm (F_X5_in a1.toInt64 0 (((nI ((t_doings 0).toNatClampNeg)) - 1).toInt64)) fun z_1 => x_nm (α := Int32) (if z_1 = 0 then (-1) else x_nm (a1.toNatClampNeg) fun j_9 => x_nm (F_X5_in a2.toInt64 0 2) fun z_10 => if z_10 = 0 then (-1) else x_nm (a2.toNatClampNeg) fun j_16 => t_doing ((3 * j_9) + j_16)) fun u_6 => u_6
set_option maxHeartbeats 4000000 in
set_option maxRecDepth 100000 in
theorem m_X5_doing (l : Launch) (g : x_G) (tA tA_doings tA_doing tA_text tA_is tA_row tA_isKept tA_best tA_heats tA_orders tA_has tA_salt tA_crumbs : Nat) (t_length : Nat) (t_at : Nat) (t_begin : Nat) (t_told : Int32) (t_items : Int32) (t_when : Int32) (t_most : Int32) (t_mostAt : Int32) (t_hiss : Int32) (t_tests : Nat) (t_traced : Int64) (t_hasSkin : Int32) (t_hasBend : Int32) (t_doings : Nat → Int32) (t_doing : Nat → Int32) (a1 : Int32) (a2 : Int32) (h_0 : (t_doings 0).toNatClampNeg ≤ 12) (h_1 : t_doings 0 = nI (t_doings 0).toNatClampNeg) : x_MetI l yX5_doing wX5_doing rX5_doing g [.ref tA, .int a1, .int a2] [(tA, .inr (5, [.int (nI t_length), .ref tA_text, .int (nI t_at), .int (nI t_begin), .int t_told, .ref tA_is, .ref tA_doings, .ref tA_doing, .int t_items, .ref tA_row, .ref tA_isKept, .int t_when, .int t_most, .int t_mostAt, .int t_hiss, .ref tA_best, .ref tA_heats, .ref tA_orders, .ref tA_has, .int (nI t_tests), .ref tA_salt, .ref tA_crumbs, .long t_traced, .int t_hasSkin, .int t_hasBend])), (tA_doings, .inl (g.2.1 0, 2, .inl t_doings)), (tA_doing, .inl (g.2.1 0, 72, .inl t_doing))] (fun (r : Int32) (u : Unit) => r = F_X5_doing t_doings t_doing a1 a2) (fun _ => [(tA, .inr (5, [.int (nI t_length), .ref tA_text, .int (nI t_at), .int (nI t_begin), .int t_told, .ref tA_is, .ref tA_doings, .ref tA_doing, .int t_items, .ref tA_row, .ref tA_isKept, .int t_when, .int t_most, .int t_mostAt, .int t_hiss, .ref tA_best, .ref tA_heats, .ref tA_orders, .ref tA_has, .int (nI t_tests), .ref tA_salt, .ref tA_crumbs, .long t_traced, .int t_hasSkin, .int t_hasBend])), (tA_doings, .inl (g.2.1 0, 2, .inl t_doings)), (tA_doing, .inl (g.2.1 0, 72, .inl t_doing))]) := by
  refine x_startI (cc := cX5_doing) (maxL := 3) (by decide) rfl (Nat.le_of_ble_eq_true rfl) ?_
  intro p e s m args below meth c Q A ls H locs hx hb hml hown hts hK hX hP hD hS hA hl RET
  have hown : s.vm.findClass RX5 = some m.cls := hown
  have hl : lv_has ls 3 [(0, .ref tA), (1, .int a1), (2, .int a2)] := hl
  obtain ⟨o_0, hO⟩ : ∃ z, z = F_X5_doing t_doings t_doing a1 a2 := ⟨_, rfl⟩
  have E := hO
  rw [F_X5_doing.eq_1] at E
  refine lv_iload_n hx hb dX5_doing_0 rfl (lv_at hl 1 rfl) ?_
  refine lv_i2l (v := a1.toInt64) hx hb dX5_doing_1 rfl ?_
  refine lv_lconst (v := 0) hx hb dX5_doing_2 (by decide) ?_
  refine lv_aload_n hx hb dX5_doing_3 rfl (lv_at hl 0 rfl) ?_
  refine va_get (ci := 5) (v := .ref tA_doings) (C := RX5) (T := TX5) (N := 25) hx hb hts inlX5 hown hK.1 hP 0 rfl rfl 6 (by decide) (hts _ kw_95) (fun _ h9 => h9) rfl dX5_doing_4 ?_
  refine lv_iconst (v := 0) hx hb dX5_doing_7 (by decide) ?_
  refine x_ialdN hx hb hK hP 1 0 rfl (by omega) (by decide) dX5_doing_8 ?_
  refine x_eqi (h_1) ?_
  refine lv_iconst (v := 1) hx hb dX5_doing_9 (by decide) ?_
  refine lv_isub hx hb dX5_doing_10 ?_
  refine lv_i2l (v := ((nI ((t_doings 0).toNatClampNeg)) - 1).toInt64) hx hb dX5_doing_11 rfl ?_
  refine x_callS0 ⟨hx, hb, hml, hown, hts⟩ hK hX hP hD hS hA (m_X5_in l g a1.toInt64 0 (((nI ((t_doings 0).toNatClampNeg)) - 1).toInt64)) (va_cwS 3 hts (x_gS kw_129 kw_130 kw_5 kw_131) rfl rfl rfl vX5_inS ⟨Nat.le_of_ble_eq_true rfl, Nat.le_of_ble_eq_true rfl⟩) rfl hl.1 rfl (Nat.le_of_ble_eq_true rfl) dX5_doing_12 ⟨Nat.zero_le _, Nat.zero_le _⟩ (fun z_1 _ H locs hw_2 hP hD hS => ?_)
  obtain ⟨hw_2, b_3⟩ := hw_2
  have E := x_nm_eq E hw_2
  obtain ⟨o_6, E_6, E⟩ := x_nm_ex E
  have J_6 : ∀ (v_5 : Int32), o_6 = v_5 → ∀ (H : Heap) (locs : List Loc) (ls : Array Slot), va_P g.1 vwCl [(tA, .inr (5, [.int (nI t_length), .ref tA_text, .int (nI t_at), .int (nI t_begin), .int t_told, .ref tA_is, .ref tA_doings, .ref tA_doing, .int t_items, .ref tA_row, .ref tA_isKept, .int t_when, .int t_most, .int t_mostAt, .int t_hiss, .ref tA_best, .ref tA_heats, .ref tA_orders, .ref tA_has, .int (nI t_tests), .ref tA_salt, .ref tA_crumbs, .long t_traced, .int t_hasSkin, .int t_hasBend])), (tA_doings, .inl (g.2.1 0, 2, .inl t_doings)), (tA_doing, .inl (g.2.1 0, 72, .inl t_doing))] H → va_D A [(tA, .inr (5, [.int (nI t_length), .ref tA_text, .int (nI t_at), .int (nI t_begin), .int t_told, .ref tA_is, .ref tA_doings, .ref tA_doing, .int t_items, .ref tA_row, .ref tA_isKept, .int t_when, .int t_most, .int t_mostAt, .int t_hiss, .ref tA_best, .ref tA_heats, .ref tA_orders, .ref tA_has, .int (nI t_tests), .ref tA_salt, .ref tA_crumbs, .long t_traced, .int t_hasSkin, .int t_hasBend])), (tA_doings, .inl (g.2.1 0, 2, .inl t_doings)), (tA_doing, .inl (g.2.1 0, 72, .inl t_doing))] → va_S A s.heap H locs → lv_has ls 3 [] → W p l e rX5_doing s m args below meth c H locs 0 0 Q (F0 m 44 ls [.int v_5]) := by
    intro v_5 hE  H locs ls hP hD hS hl
    try rw [hE] at E
    exact RET v_5 () H locs _ _ (E.symm.trans hO) rfl hP hD hS dX5_doing_44
  have E := E_6
  refine lv_if_eq (tgt := 43) hx hb dX5_doing_15 (by decide) (fun c_7 => ?_) (fun c_7 => ?_)
  · have E := x_pos E c_7
    refine lv_iconst (v := (-1)) hx hb dX5_doing_43 (by decide) ?_
    exact J_6 (-1) E  H locs ls hP hD hS (lv_sub hl [] rfl)
  · have E := x_neg E c_7
    obtain ⟨j_9, hj⟩ : ∃ z, z = (a1).toNatClampNeg := ⟨_, rfl⟩
    have r_8_0 := (x_insM (d := ((t_doings 0).toNatClampNeg)) (by omega) (fun q => c_7 (hw_2.trans q)))
    rw [← hj] at r_8_0
    obtain ⟨r_8_0_a, r_8_0_b, e_8_0⟩ := r_8_0
    have E := x_nm_eq E hj
    have hl : lv_has ls 3 [(0, .ref tA), (1, .int (nI j_9)), (2, .int a2)] := by rw [e_8_0] at hl; exact hl
    refine lv_iload_n hx hb dX5_doing_18 rfl (lv_at hl 2 rfl) ?_
    refine lv_i2l (v := a2.toInt64) hx hb dX5_doing_19 rfl ?_
    refine lv_lconst (v := 0) hx hb dX5_doing_20 (by decide) ?_
    refine lv_ldc2 (v := 2) hx hb hown (hts _ kw_375) dX5_doing_21 ?_
    refine x_callS0 ⟨hx, hb, hml, hown, hts⟩ hK hX hP hD hS hA (m_X5_in l g a2.toInt64 0 2) (va_cwS 3 hts (x_gS kw_129 kw_130 kw_5 kw_131) rfl rfl rfl vX5_inS ⟨Nat.le_of_ble_eq_true rfl, Nat.le_of_ble_eq_true rfl⟩) rfl hl.1 rfl (Nat.le_of_ble_eq_true rfl) dX5_doing_24 ⟨Nat.zero_le _, Nat.zero_le _⟩ (fun z_10 _ H locs hw_11 hP hD hS => ?_)
    obtain ⟨hw_11, b_12⟩ := hw_11
    have E := x_nm_eq E hw_11
    refine lv_if_eq (tgt := 43) hx hb dX5_doing_27 (by decide) (fun c_14 => ?_) (fun c_14 => ?_)
    · have E := x_pos E c_14
      refine lv_iconst (v := (-1)) hx hb dX5_doing_43 (by decide) ?_
      exact J_6 (-1) E  H locs ls hP hD hS (lv_sub hl [] rfl)
    · have E := x_neg E c_14
      obtain ⟨j_16, hj⟩ : ∃ z, z = (a2).toNatClampNeg := ⟨_, rfl⟩
      have r_15_0 := (x_ins (lo := 0) (hi := 2) (by omega) (by omega) (fun q => c_14 (hw_11.trans q)))
      rw [← hj] at r_15_0
      obtain ⟨r_15_0_a, r_15_0_b, e_15_0⟩ := r_15_0
      have E := x_nm_eq E hj
      have hl : lv_has ls 3 [(0, .ref tA), (1, .int (nI j_9)), (2, .int (nI j_16))] := by rw [e_15_0] at hl; exact hl
      refine lv_aload_n hx hb dX5_doing_30 rfl (lv_at hl 0 rfl) ?_
      refine va_get (ci := 5) (v := .ref tA_doing) (C := RX5) (T := TX5) (N := 25) hx hb hts inlX5 hown hK.1 hP 0 rfl rfl 7 (by decide) (hts _ kw_96) (fun _ h9 => h9) rfl dX5_doing_31 ?_
      refine lv_iconst (v := 3) hx hb dX5_doing_34 (by decide) ?_
      refine lv_iload_n hx hb dX5_doing_35 rfl (lv_at hl 1 rfl) ?_
      refine lv_imul hx hb dX5_doing_36 ?_
      refine x_eqi (pk_mul 3 j_9) ?_
      refine lv_iload_n hx hb dX5_doing_37 rfl (lv_at hl 2 rfl) ?_
      refine lv_iadd hx hb dX5_doing_38 ?_
      refine x_eqi (nI_add (3 * j_9) j_16) ?_
      refine x_ialdN hx hb hK hP 2 ((3 * j_9) + j_16) rfl (by omega) (by decide) dX5_doing_39 ?_
      refine lv_goto (tgt := 44) hx hb dX5_doing_40 (by decide) ?_
      exact J_6 (t_doing ((3 * j_9) + j_16)) E  H locs ls hP hD hS (lv_sub hl [] rfl)
abbrev rX5_tried : Room := { frames := 2, cells := 0, slots := 0, locals := 55 }
theorem vX5_tried : yX5_tried.cls = RX5 ∧ yX5_tried.cls ≠ "java/lang/invoke/MethodHandle" ∧ yX5_tried.cls ≠ "java/lang/invoke/VarHandle" ∧ (parseMethodDescriptor yX5_tried.desc).map (fun d => d.parameters.length) = some 2 := by decide +kernel
abbrev wX5_tried : List Cond := Cond.code yX5_tried cX5_tried 6 none :: wsL_law
def F_X5_tried (t_is : Nat → Int32) (t_row : Nat → Int32) (t_when : Int32) (t_most : Int32) (t_mostAt : Int32) (t_hiss : Int32) (a1 : Int32) (a2 : Int32) : Int32 × Int32 × Int32 × Int32 × (Nat → Int32) :=
  x_nm (F_X5_second t_is t_row 3 a1 a2) fun t_row_1 => x_nm (α := Int32) (if (t_row 73) = 0 then if (t_row_1 73) ≤ 0 then t_when else t_row_1 72 else t_when) fun u_5 => x_nm (α := Int32) (if 0 ≤ t_hiss then t_hiss else if (t_row_1 75) ≤ 0 then t_hiss else t_row_1 72) fun u_7 => x_nm (α := Int32 × Int32) (if t_mostAt < 0 then (t_row_1 77, t_row_1 72) else if (t_row_1 77) ≤ t_most then (t_most, t_mostAt) else (t_row_1 77, t_row_1 72)) fun u_10 => (u_5, u_10.1, u_10.2, u_7, t_row_1)
set_option maxHeartbeats 4000000 in
set_option maxRecDepth 100000 in
theorem m_X5_tried (l : Launch) (g : x_G) (tA tA_is tA_row tA_text tA_doings tA_doing tA_isKept tA_best tA_heats tA_orders tA_has tA_salt tA_crumbs : Nat) (t_length : Nat) (t_at : Nat) (t_begin : Nat) (t_told : Int32) (t_items : Int32) (t_when : Int32) (t_most : Int32) (t_mostAt : Int32) (t_hiss : Int32) (t_tests : Nat) (t_traced : Int64) (t_hasSkin : Int32) (t_hasBend : Int32) (t_is : Nat → Int32) (t_row : Nat → Int32) (a1 : Int32) (a2 : Int32) (h_0 : ¬ 8 * t_is 0 = 0) : x_MetV l yX5_tried wX5_tried rX5_tried g [.ref tA, .int a1, .int a2] [(tA, .inr (5, [.int (nI t_length), .ref tA_text, .int (nI t_at), .int (nI t_begin), .int t_told, .ref tA_is, .ref tA_doings, .ref tA_doing, .int t_items, .ref tA_row, .ref tA_isKept, .int t_when, .int t_most, .int t_mostAt, .int t_hiss, .ref tA_best, .ref tA_heats, .ref tA_orders, .ref tA_has, .int (nI t_tests), .ref tA_salt, .ref tA_crumbs, .long t_traced, .int t_hasSkin, .int t_hasBend])), (tA_is, .inl (g.2.1 0, 18, .inl t_is)), (tA_row, .inl (g.2.1 0, 80, .inl t_row))] (fun u : Int32 × Int32 × Int32 × Int32 × (Nat → Int32) => u = F_X5_tried t_is t_row t_when t_most t_mostAt t_hiss a1 a2) (fun u => [(tA, .inr (5, [.int (nI t_length), .ref tA_text, .int (nI t_at), .int (nI t_begin), .int t_told, .ref tA_is, .ref tA_doings, .ref tA_doing, .int t_items, .ref tA_row, .ref tA_isKept, .int u.1, .int u.2.1, .int u.2.2.1, .int u.2.2.2.1, .ref tA_best, .ref tA_heats, .ref tA_orders, .ref tA_has, .int (nI t_tests), .ref tA_salt, .ref tA_crumbs, .long t_traced, .int t_hasSkin, .int t_hasBend])), (tA_is, .inl (g.2.1 0, 18, .inl t_is)), (tA_row, .inl (g.2.1 0, 80, .inl u.2.2.2.2))]) := by
  refine x_startV (cc := cX5_tried) (maxL := 6) (by decide) rfl (Nat.le_of_ble_eq_true rfl) ?_
  intro p e s m args below meth c Q A ls H locs hx hb hml hown hts hK hX hP hD hS hA hl RET
  have hown : s.vm.findClass RX5 = some m.cls := hown
  have hl : lv_has ls 6 [(0, .ref tA), (1, .int a1), (2, .int a2)] := hl
  obtain ⟨o_0, hO⟩ : ∃ z, z = F_X5_tried t_is t_row t_when t_most t_mostAt t_hiss a1 a2 := ⟨_, rfl⟩
  have E := hO
  rw [F_X5_tried.eq_1] at E
  refine lv_bipush (v := 60) hx hb dX5_tried_0 (by decide) ?_
  refine lv_istore_n (lv' := [(3, .int 60), (0, .ref tA), (1, .int a1), (2, .int a2)]) hx hb dX5_tried_2 rfl hl (by decide) rfl (fun ls hl => ?_)
  refine lv_aload_n hx hb dX5_tried_3 rfl (lv_at hl 1 rfl) ?_
  refine va_get (ci := 5) (v := .ref tA_row) (C := RX5) (T := TX5) (N := 25) hx hb hts inlX5 hown hK.1 hP 0 rfl rfl 9 (by decide) (hts _ kw_97) (fun _ h9 => h9) rfl dX5_tried_4 ?_
  refine lv_iload_n hx hb dX5_tried_7 rfl (lv_at hl 0 rfl) ?_
  refine lv_bipush (v := 13) hx hb dX5_tried_8 (by decide) ?_
  refine lv_iadd hx hb dX5_tried_10 ?_
  refine x_eqi (nI_add 60 13) ?_
  refine x_ialdN hx hb hK hP 2 73 rfl (by omega) (by decide) dX5_tried_11 ?_
  refine lv_istore (lv' := [(4, .int (t_row 73)), (3, .int 60), (0, .ref tA), (1, .int a1), (2, .int a2)]) hx hb dX5_tried_12 hl (by decide) rfl (fun ls hl => ?_)
  refine lv_aload_n hx hb dX5_tried_14 rfl (lv_at hl 2 rfl) ?_
  refine lv_iconst (v := 3) hx hb dX5_tried_15 (by decide) ?_
  refine lv_iload_n hx hb dX5_tried_16 rfl (lv_at hl 3 rfl) ?_
  refine lv_iload_n hx hb dX5_tried_17 rfl (lv_at hl 4 rfl) ?_
  refine x_callVv (w2 := fun u => [(tA, .inr (5, [.int (nI t_length), .ref tA_text, .int (nI t_at), .int (nI t_begin), .int t_told, .ref tA_is, .ref tA_doings, .ref tA_doing, .int t_items, .ref tA_row, .ref tA_isKept, .int t_when, .int t_most, .int t_mostAt, .int t_hiss, .ref tA_best, .ref tA_heats, .ref tA_orders, .ref tA_has, .int (nI t_tests), .ref tA_salt, .ref tA_crumbs, .long t_traced, .int t_hasSkin, .int t_hasBend])), (tA_is, .inl (g.2.1 0, 18, .inl t_is)), (tA_row, .inl (g.2.1 0, 80, .inl u))]) (wr := []) [0, 1, 2] [] [0, 1, 2] 0 5 ⟨hx, hb, hml, hown, hts⟩ hK hX hP hD hS hA (m_X5_second l g tA tA_is tA_row tA_text tA_doings tA_doing tA_isKept tA_best tA_heats tA_orders tA_has tA_salt tA_crumbs t_length t_at t_begin t_told t_items t_when t_most t_mostAt t_hiss t_tests t_traced t_hasSkin t_hasBend t_is t_row 3 a1 a2 (by first | assumption | omega | exact x_e8 (by assumption) (by assumption)) (by first | assumption | omega | exact x_e8 (by assumption) (by assumption))) (cwV 3 hts (x_gV kw_444 kw_445 kw_446 kw_5 kw_447) rfl rfl rfl vX5_second ⟨Nat.le_of_ble_eq_true rfl, Nat.le_of_ble_eq_true rfl⟩) rfl rfl rfl rfl rfl rfl rfl (by decide) (fun _ => rfl) rfl rfl hl.1 rfl (Nat.le_of_ble_eq_true rfl) dX5_tried_18 ⟨Nat.zero_le _, Nat.zero_le _⟩ (fun t_row_1 H locs hw_2 hP hD hS => ?_)
  have hP : va_P g.1 vwCl [(tA, .inr (5, [.int (nI t_length), .ref tA_text, .int (nI t_at), .int (nI t_begin), .int t_told, .ref tA_is, .ref tA_doings, .ref tA_doing, .int t_items, .ref tA_row, .ref tA_isKept, .int t_when, .int t_most, .int t_mostAt, .int t_hiss, .ref tA_best, .ref tA_heats, .ref tA_orders, .ref tA_has, .int (nI t_tests), .ref tA_salt, .ref tA_crumbs, .long t_traced, .int t_hasSkin, .int t_hasBend])), (tA_is, .inl (g.2.1 0, 18, .inl t_is)), (tA_row, .inl (g.2.1 0, 80, .inl t_row_1))] H := hP
  have hD : va_D A [(tA, .inr (5, [.int (nI t_length), .ref tA_text, .int (nI t_at), .int (nI t_begin), .int t_told, .ref tA_is, .ref tA_doings, .ref tA_doing, .int t_items, .ref tA_row, .ref tA_isKept, .int t_when, .int t_most, .int t_mostAt, .int t_hiss, .ref tA_best, .ref tA_heats, .ref tA_orders, .ref tA_has, .int (nI t_tests), .ref tA_salt, .ref tA_crumbs, .long t_traced, .int t_hasSkin, .int t_hasBend])), (tA_is, .inl (g.2.1 0, 18, .inl t_is)), (tA_row, .inl (g.2.1 0, 80, .inl t_row_1))] := hD
  have E := x_nm_eq E hw_2
  refine lv_aload_n hx hb dX5_tried_21 rfl (lv_at hl 2 rfl) ?_
  refine va_get (ci := 5) (v := .ref tA_row) (C := RX5) (T := TX5) (N := 25) hx hb hts inlX5 hown hK.1 hP 0 rfl rfl 9 (by decide) (hts _ kw_97) (fun _ h9 => h9) rfl dX5_tried_22 ?_
  refine lv_iload_n hx hb dX5_tried_25 rfl (lv_at hl 1 rfl) ?_
  refine lv_bipush (v := 12) hx hb dX5_tried_26 (by decide) ?_
  refine lv_iadd hx hb dX5_tried_28 ?_
  refine x_eqi (nI_add 60 12) ?_
  refine x_ialdN hx hb hK hP 2 72 rfl (by omega) (by decide) dX5_tried_29 ?_
  refine lv_istore (lv' := [(5, .int (t_row_1 72)), (4, .int (t_row 73)), (3, .int 60), (0, .ref tA), (1, .int a1), (2, .int a2)]) hx hb dX5_tried_30 hl (by decide) rfl (fun ls hl => ?_)
  refine lv_aload_n hx hb dX5_tried_32 rfl (lv_at hl 3 rfl) ?_
  refine lv_iload hx hb dX5_tried_33 (lv_at hl 1 rfl) ?_
  obtain ⟨o_5, E_5, E⟩ := x_nm_ex E
  have J_5 : ∀ (v_4 : Int32), o_5 = v_4 → ∀ (H : Heap) (locs : List Loc) (ls : Array Slot), va_P g.1 vwCl [(tA, .inr (5, [.int (nI t_length), .ref tA_text, .int (nI t_at), .int (nI t_begin), .int t_told, .ref tA_is, .ref tA_doings, .ref tA_doing, .int t_items, .ref tA_row, .ref tA_isKept, .int t_when, .int t_most, .int t_mostAt, .int t_hiss, .ref tA_best, .ref tA_heats, .ref tA_orders, .ref tA_has, .int (nI t_tests), .ref tA_salt, .ref tA_crumbs, .long t_traced, .int t_hasSkin, .int t_hasBend])), (tA_is, .inl (g.2.1 0, 18, .inl t_is)), (tA_row, .inl (g.2.1 0, 80, .inl t_row_1))] H → va_D A [(tA, .inr (5, [.int (nI t_length), .ref tA_text, .int (nI t_at), .int (nI t_begin), .int t_told, .ref tA_is, .ref tA_doings, .ref tA_doing, .int t_items, .ref tA_row, .ref tA_isKept, .int t_when, .int t_most, .int t_mostAt, .int t_hiss, .ref tA_best, .ref tA_heats, .ref tA_orders, .ref tA_has, .int (nI t_tests), .ref tA_salt, .ref tA_crumbs, .long t_traced, .int t_hasSkin, .int t_hasBend])), (tA_is, .inl (g.2.1 0, 18, .inl t_is)), (tA_row, .inl (g.2.1 0, 80, .inl t_row_1))] → va_S A s.heap H locs → lv_has ls 6 [(0, .ref tA), (3, .int 60), (5, .int (t_row_1 72))] → W p l e rX5_tried s m args below meth c H locs 0 0 Q (F0 m 59 ls [.int v_4, .ref tA]) := by
    intro v_4 hE  H locs ls hP hD hS hl
    try rw [hE] at E
    refine va_put (ci := 5) (v := .int v_4) (ty := .int) (C := RX5) (T := TX5) (N := 25) hx hb hts inlX5 tyX5 tyX5_ok nmX5 hown hK.1 hP hD hS 0 rfl rfl 11 (by decide) (hts _ kw_99) (fun _ h9 => h9) rfl (tyX5_ok 11 (by decide)) rfl rfl (Nat.le_of_ble_eq_true rfl) dX5_tried_59 (fun H locs hP hD hS => ?_)
    have hP : va_P g.1 vwCl [(tA, .inr (5, [.int (nI t_length), .ref tA_text, .int (nI t_at), .int (nI t_begin), .int t_told, .ref tA_is, .ref tA_doings, .ref tA_doing, .int t_items, .ref tA_row, .ref tA_isKept, .int v_4, .int t_most, .int t_mostAt, .int t_hiss, .ref tA_best, .ref tA_heats, .ref tA_orders, .ref tA_has, .int (nI t_tests), .ref tA_salt, .ref tA_crumbs, .long t_traced, .int t_hasSkin, .int t_hasBend])), (tA_is, .inl (g.2.1 0, 18, .inl t_is)), (tA_row, .inl (g.2.1 0, 80, .inl t_row_1))] H := hP
    have hD : va_D A [(tA, .inr (5, [.int (nI t_length), .ref tA_text, .int (nI t_at), .int (nI t_begin), .int t_told, .ref tA_is, .ref tA_doings, .ref tA_doing, .int t_items, .ref tA_row, .ref tA_isKept, .int v_4, .int t_most, .int t_mostAt, .int t_hiss, .ref tA_best, .ref tA_heats, .ref tA_orders, .ref tA_has, .int (nI t_tests), .ref tA_salt, .ref tA_crumbs, .long t_traced, .int t_hasSkin, .int t_hasBend])), (tA_is, .inl (g.2.1 0, 18, .inl t_is)), (tA_row, .inl (g.2.1 0, 80, .inl t_row_1))] := hD
    refine lv_aload_n hx hb dX5_tried_62 rfl (lv_at hl 0 rfl) ?_
    refine lv_aload_n hx hb dX5_tried_63 rfl (lv_at hl 0 rfl) ?_
    refine va_get (ci := 5) (v := .int t_hiss) (C := RX5) (T := TX5) (N := 25) hx hb hts inlX5 hown hK.1 hP 0 rfl rfl 14 (by decide) (hts _ kw_607) (fun _ h9 => h9) rfl dX5_tried_64 ?_
    obtain ⟨o_7, E_7, E⟩ := x_nm_ex E
    have J_7 : ∀ (v_6 : Int32), o_7 = v_6 → ∀ (H : Heap) (locs : List Loc) (ls : Array Slot), va_P g.1 vwCl [(tA, .inr (5, [.int (nI t_length), .ref tA_text, .int (nI t_at), .int (nI t_begin), .int t_told, .ref tA_is, .ref tA_doings, .ref tA_doing, .int t_items, .ref tA_row, .ref tA_isKept, .int v_4, .int t_most, .int t_mostAt, .int t_hiss, .ref tA_best, .ref tA_heats, .ref tA_orders, .ref tA_has, .int (nI t_tests), .ref tA_salt, .ref tA_crumbs, .long t_traced, .int t_hasSkin, .int t_hasBend])), (tA_is, .inl (g.2.1 0, 18, .inl t_is)), (tA_row, .inl (g.2.1 0, 80, .inl t_row_1))] H → va_D A [(tA, .inr (5, [.int (nI t_length), .ref tA_text, .int (nI t_at), .int (nI t_begin), .int t_told, .ref tA_is, .ref tA_doings, .ref tA_doing, .int t_items, .ref tA_row, .ref tA_isKept, .int v_4, .int t_most, .int t_mostAt, .int t_hiss, .ref tA_best, .ref tA_heats, .ref tA_orders, .ref tA_has, .int (nI t_tests), .ref tA_salt, .ref tA_crumbs, .long t_traced, .int t_hasSkin, .int t_hasBend])), (tA_is, .inl (g.2.1 0, 18, .inl t_is)), (tA_row, .inl (g.2.1 0, 80, .inl t_row_1))] → va_S A s.heap H locs → lv_has ls 6 [(0, .ref tA), (3, .int 60), (5, .int (t_row_1 72))] → W p l e rX5_tried s m args below meth c H locs 0 0 Q (F0 m 91 ls [.int v_6, .ref tA]) := by
      intro v_6 hE  H locs ls hP hD hS hl
      try rw [hE] at E
      refine va_put (ci := 5) (v := .int v_6) (ty := .int) (C := RX5) (T := TX5) (N := 25) hx hb hts inlX5 tyX5 tyX5_ok nmX5 hown hK.1 hP hD hS 0 rfl rfl 14 (by decide) (hts _ kw_607) (fun _ h9 => h9) rfl (tyX5_ok 14 (by decide)) rfl rfl (Nat.le_of_ble_eq_true rfl) dX5_tried_91 (fun H locs hP hD hS => ?_)
      have hP : va_P g.1 vwCl [(tA, .inr (5, [.int (nI t_length), .ref tA_text, .int (nI t_at), .int (nI t_begin), .int t_told, .ref tA_is, .ref tA_doings, .ref tA_doing, .int t_items, .ref tA_row, .ref tA_isKept, .int v_4, .int t_most, .int t_mostAt, .int v_6, .ref tA_best, .ref tA_heats, .ref tA_orders, .ref tA_has, .int (nI t_tests), .ref tA_salt, .ref tA_crumbs, .long t_traced, .int t_hasSkin, .int t_hasBend])), (tA_is, .inl (g.2.1 0, 18, .inl t_is)), (tA_row, .inl (g.2.1 0, 80, .inl t_row_1))] H := hP
      have hD : va_D A [(tA, .inr (5, [.int (nI t_length), .ref tA_text, .int (nI t_at), .int (nI t_begin), .int t_told, .ref tA_is, .ref tA_doings, .ref tA_doing, .int t_items, .ref tA_row, .ref tA_isKept, .int v_4, .int t_most, .int t_mostAt, .int v_6, .ref tA_best, .ref tA_heats, .ref tA_orders, .ref tA_has, .int (nI t_tests), .ref tA_salt, .ref tA_crumbs, .long t_traced, .int t_hasSkin, .int t_hasBend])), (tA_is, .inl (g.2.1 0, 18, .inl t_is)), (tA_row, .inl (g.2.1 0, 80, .inl t_row_1))] := hD
      refine lv_aload_n hx hb dX5_tried_94 rfl (lv_at hl 0 rfl) ?_
      refine va_get (ci := 5) (v := .int t_mostAt) (C := RX5) (T := TX5) (N := 25) hx hb hts inlX5 hown hK.1 hP 0 rfl rfl 13 (by decide) (hts _ kw_606) (fun _ h9 => h9) rfl dX5_tried_95 ?_
      obtain ⟨o_10, E_10, E⟩ := x_nm_ex E
      have J_10 : ∀ (t_most_8 : Int32) (t_mostAt_9 : Int32), o_10 = (t_most_8, t_mostAt_9) → ∀ (H : Heap) (locs : List Loc) (ls : Array Slot), va_P g.1 vwCl [(tA, .inr (5, [.int (nI t_length), .ref tA_text, .int (nI t_at), .int (nI t_begin), .int t_told, .ref tA_is, .ref tA_doings, .ref tA_doing, .int t_items, .ref tA_row, .ref tA_isKept, .int v_4, .int t_most_8, .int t_mostAt_9, .int v_6, .ref tA_best, .ref tA_heats, .ref tA_orders, .ref tA_has, .int (nI t_tests), .ref tA_salt, .ref tA_crumbs, .long t_traced, .int t_hasSkin, .int t_hasBend])), (tA_is, .inl (g.2.1 0, 18, .inl t_is)), (tA_row, .inl (g.2.1 0, 80, .inl t_row_1))] H → va_D A [(tA, .inr (5, [.int (nI t_length), .ref tA_text, .int (nI t_at), .int (nI t_begin), .int t_told, .ref tA_is, .ref tA_doings, .ref tA_doing, .int t_items, .ref tA_row, .ref tA_isKept, .int v_4, .int t_most_8, .int t_mostAt_9, .int v_6, .ref tA_best, .ref tA_heats, .ref tA_orders, .ref tA_has, .int (nI t_tests), .ref tA_salt, .ref tA_crumbs, .long t_traced, .int t_hasSkin, .int t_hasBend])), (tA_is, .inl (g.2.1 0, 18, .inl t_is)), (tA_row, .inl (g.2.1 0, 80, .inl t_row_1))] → va_S A s.heap H locs → lv_has ls 6 [] → W p l e rX5_tried s m args below meth c H locs 0 0 Q (F0 m 136 ls []) := by
        intro t_most_8 t_mostAt_9 hE  H locs ls hP hD hS hl
        try rw [hE] at E
        exact RET (v_4, t_most_8, t_mostAt_9, v_6, t_row_1) H locs _ _ (E.symm.trans hO) hP hD hS dX5_tried_136
      have E := E_10
      refine lv_if_lt (tgt := 117) hx hb dX5_tried_98 (by decide) (fun c_11 => ?_) (fun c_11 => ?_)
      · have E := x_pos E c_11
        refine lv_aload_n hx hb dX5_tried_117 rfl (lv_at hl 0 rfl) ?_
        refine lv_aload_n hx hb dX5_tried_118 rfl (lv_at hl 0 rfl) ?_
        refine va_get (ci := 5) (v := .ref tA_row) (C := RX5) (T := TX5) (N := 25) hx hb hts inlX5 hown hK.1 hP 0 rfl rfl 9 (by decide) (hts _ kw_97) (fun _ h9 => h9) rfl dX5_tried_119 ?_
        refine lv_iload_n hx hb dX5_tried_122 rfl (lv_at hl 1 rfl) ?_
        refine lv_bipush (v := 17) hx hb dX5_tried_123 (by decide) ?_
        refine lv_iadd hx hb dX5_tried_125 ?_
        refine x_eqi (nI_add 60 17) ?_
        refine x_ialdN hx hb hK hP 2 77 rfl (by omega) (by decide) dX5_tried_126 ?_
        refine va_put (ci := 5) (v := .int (t_row_1 77)) (ty := .int) (C := RX5) (T := TX5) (N := 25) hx hb hts inlX5 tyX5 tyX5_ok nmX5 hown hK.1 hP hD hS 0 rfl rfl 12 (by decide) (hts _ kw_605) (fun _ h9 => h9) rfl (tyX5_ok 12 (by decide)) rfl rfl (Nat.le_of_ble_eq_true rfl) dX5_tried_127 (fun H locs hP hD hS => ?_)
        have hP : va_P g.1 vwCl [(tA, .inr (5, [.int (nI t_length), .ref tA_text, .int (nI t_at), .int (nI t_begin), .int t_told, .ref tA_is, .ref tA_doings, .ref tA_doing, .int t_items, .ref tA_row, .ref tA_isKept, .int v_4, .int (t_row_1 77), .int t_mostAt, .int v_6, .ref tA_best, .ref tA_heats, .ref tA_orders, .ref tA_has, .int (nI t_tests), .ref tA_salt, .ref tA_crumbs, .long t_traced, .int t_hasSkin, .int t_hasBend])), (tA_is, .inl (g.2.1 0, 18, .inl t_is)), (tA_row, .inl (g.2.1 0, 80, .inl t_row_1))] H := hP
        have hD : va_D A [(tA, .inr (5, [.int (nI t_length), .ref tA_text, .int (nI t_at), .int (nI t_begin), .int t_told, .ref tA_is, .ref tA_doings, .ref tA_doing, .int t_items, .ref tA_row, .ref tA_isKept, .int v_4, .int (t_row_1 77), .int t_mostAt, .int v_6, .ref tA_best, .ref tA_heats, .ref tA_orders, .ref tA_has, .int (nI t_tests), .ref tA_salt, .ref tA_crumbs, .long t_traced, .int t_hasSkin, .int t_hasBend])), (tA_is, .inl (g.2.1 0, 18, .inl t_is)), (tA_row, .inl (g.2.1 0, 80, .inl t_row_1))] := hD
        refine lv_aload_n hx hb dX5_tried_130 rfl (lv_at hl 0 rfl) ?_
        refine lv_iload hx hb dX5_tried_131 (lv_at hl 2 rfl) ?_
        refine va_put (ci := 5) (v := .int (t_row_1 72)) (ty := .int) (C := RX5) (T := TX5) (N := 25) hx hb hts inlX5 tyX5 tyX5_ok nmX5 hown hK.1 hP hD hS 0 rfl rfl 13 (by decide) (hts _ kw_606) (fun _ h9 => h9) rfl (tyX5_ok 13 (by decide)) rfl rfl (Nat.le_of_ble_eq_true rfl) dX5_tried_133 (fun H locs hP hD hS => ?_)
        have hP : va_P g.1 vwCl [(tA, .inr (5, [.int (nI t_length), .ref tA_text, .int (nI t_at), .int (nI t_begin), .int t_told, .ref tA_is, .ref tA_doings, .ref tA_doing, .int t_items, .ref tA_row, .ref tA_isKept, .int v_4, .int (t_row_1 77), .int (t_row_1 72), .int v_6, .ref tA_best, .ref tA_heats, .ref tA_orders, .ref tA_has, .int (nI t_tests), .ref tA_salt, .ref tA_crumbs, .long t_traced, .int t_hasSkin, .int t_hasBend])), (tA_is, .inl (g.2.1 0, 18, .inl t_is)), (tA_row, .inl (g.2.1 0, 80, .inl t_row_1))] H := hP
        have hD : va_D A [(tA, .inr (5, [.int (nI t_length), .ref tA_text, .int (nI t_at), .int (nI t_begin), .int t_told, .ref tA_is, .ref tA_doings, .ref tA_doing, .int t_items, .ref tA_row, .ref tA_isKept, .int v_4, .int (t_row_1 77), .int (t_row_1 72), .int v_6, .ref tA_best, .ref tA_heats, .ref tA_orders, .ref tA_has, .int (nI t_tests), .ref tA_salt, .ref tA_crumbs, .long t_traced, .int t_hasSkin, .int t_hasBend])), (tA_is, .inl (g.2.1 0, 18, .inl t_is)), (tA_row, .inl (g.2.1 0, 80, .inl t_row_1))] := hD
        exact J_10 (t_row_1 77) (t_row_1 72) E  H locs ls hP hD hS (lv_sub hl [] rfl)
      · have E := x_neg E c_11
        refine lv_aload_n hx hb dX5_tried_101 rfl (lv_at hl 0 rfl) ?_
        refine va_get (ci := 5) (v := .ref tA_row) (C := RX5) (T := TX5) (N := 25) hx hb hts inlX5 hown hK.1 hP 0 rfl rfl 9 (by decide) (hts _ kw_97) (fun _ h9 => h9) rfl dX5_tried_102 ?_
        refine lv_iload_n hx hb dX5_tried_105 rfl (lv_at hl 1 rfl) ?_
        refine lv_bipush (v := 17) hx hb dX5_tried_106 (by decide) ?_
        refine lv_iadd hx hb dX5_tried_108 ?_
        refine x_eqi (nI_add 60 17) ?_
        refine x_ialdN hx hb hK hP 2 77 rfl (by omega) (by decide) dX5_tried_109 ?_
        refine lv_aload_n hx hb dX5_tried_110 rfl (lv_at hl 0 rfl) ?_
        refine va_get (ci := 5) (v := .int t_most) (C := RX5) (T := TX5) (N := 25) hx hb hts inlX5 hown hK.1 hP 0 rfl rfl 12 (by decide) (hts _ kw_605) (fun _ h9 => h9) rfl dX5_tried_111 ?_
        refine lv_icmp_le (tgt := 136) hx hb dX5_tried_114 (by decide) (fun c_12 => ?_) (fun c_12 => ?_)
        · have E := x_pos E c_12
          exact J_10 t_most t_mostAt E  H locs ls hP hD hS (lv_sub hl [] rfl)
        · have E := x_neg E c_12
          refine lv_aload_n hx hb dX5_tried_117 rfl (lv_at hl 0 rfl) ?_
          refine lv_aload_n hx hb dX5_tried_118 rfl (lv_at hl 0 rfl) ?_
          refine va_get (ci := 5) (v := .ref tA_row) (C := RX5) (T := TX5) (N := 25) hx hb hts inlX5 hown hK.1 hP 0 rfl rfl 9 (by decide) (hts _ kw_97) (fun _ h9 => h9) rfl dX5_tried_119 ?_
          refine lv_iload_n hx hb dX5_tried_122 rfl (lv_at hl 1 rfl) ?_
          refine lv_bipush (v := 17) hx hb dX5_tried_123 (by decide) ?_
          refine lv_iadd hx hb dX5_tried_125 ?_
          refine x_eqi (nI_add 60 17) ?_
          refine x_ialdN hx hb hK hP 2 77 rfl (by omega) (by decide) dX5_tried_126 ?_
          refine va_put (ci := 5) (v := .int (t_row_1 77)) (ty := .int) (C := RX5) (T := TX5) (N := 25) hx hb hts inlX5 tyX5 tyX5_ok nmX5 hown hK.1 hP hD hS 0 rfl rfl 12 (by decide) (hts _ kw_605) (fun _ h9 => h9) rfl (tyX5_ok 12 (by decide)) rfl rfl (Nat.le_of_ble_eq_true rfl) dX5_tried_127 (fun H locs hP hD hS => ?_)
          have hP : va_P g.1 vwCl [(tA, .inr (5, [.int (nI t_length), .ref tA_text, .int (nI t_at), .int (nI t_begin), .int t_told, .ref tA_is, .ref tA_doings, .ref tA_doing, .int t_items, .ref tA_row, .ref tA_isKept, .int v_4, .int (t_row_1 77), .int t_mostAt, .int v_6, .ref tA_best, .ref tA_heats, .ref tA_orders, .ref tA_has, .int (nI t_tests), .ref tA_salt, .ref tA_crumbs, .long t_traced, .int t_hasSkin, .int t_hasBend])), (tA_is, .inl (g.2.1 0, 18, .inl t_is)), (tA_row, .inl (g.2.1 0, 80, .inl t_row_1))] H := hP
          have hD : va_D A [(tA, .inr (5, [.int (nI t_length), .ref tA_text, .int (nI t_at), .int (nI t_begin), .int t_told, .ref tA_is, .ref tA_doings, .ref tA_doing, .int t_items, .ref tA_row, .ref tA_isKept, .int v_4, .int (t_row_1 77), .int t_mostAt, .int v_6, .ref tA_best, .ref tA_heats, .ref tA_orders, .ref tA_has, .int (nI t_tests), .ref tA_salt, .ref tA_crumbs, .long t_traced, .int t_hasSkin, .int t_hasBend])), (tA_is, .inl (g.2.1 0, 18, .inl t_is)), (tA_row, .inl (g.2.1 0, 80, .inl t_row_1))] := hD
          refine lv_aload_n hx hb dX5_tried_130 rfl (lv_at hl 0 rfl) ?_
          refine lv_iload hx hb dX5_tried_131 (lv_at hl 2 rfl) ?_
          refine va_put (ci := 5) (v := .int (t_row_1 72)) (ty := .int) (C := RX5) (T := TX5) (N := 25) hx hb hts inlX5 tyX5 tyX5_ok nmX5 hown hK.1 hP hD hS 0 rfl rfl 13 (by decide) (hts _ kw_606) (fun _ h9 => h9) rfl (tyX5_ok 13 (by decide)) rfl rfl (Nat.le_of_ble_eq_true rfl) dX5_tried_133 (fun H locs hP hD hS => ?_)
          have hP : va_P g.1 vwCl [(tA, .inr (5, [.int (nI t_length), .ref tA_text, .int (nI t_at), .int (nI t_begin), .int t_told, .ref tA_is, .ref tA_doings, .ref tA_doing, .int t_items, .ref tA_row, .ref tA_isKept, .int v_4, .int (t_row_1 77), .int (t_row_1 72), .int v_6, .ref tA_best, .ref tA_heats, .ref tA_orders, .ref tA_has, .int (nI t_tests), .ref tA_salt, .ref tA_crumbs, .long t_traced, .int t_hasSkin, .int t_hasBend])), (tA_is, .inl (g.2.1 0, 18, .inl t_is)), (tA_row, .inl (g.2.1 0, 80, .inl t_row_1))] H := hP
          have hD : va_D A [(tA, .inr (5, [.int (nI t_length), .ref tA_text, .int (nI t_at), .int (nI t_begin), .int t_told, .ref tA_is, .ref tA_doings, .ref tA_doing, .int t_items, .ref tA_row, .ref tA_isKept, .int v_4, .int (t_row_1 77), .int (t_row_1 72), .int v_6, .ref tA_best, .ref tA_heats, .ref tA_orders, .ref tA_has, .int (nI t_tests), .ref tA_salt, .ref tA_crumbs, .long t_traced, .int t_hasSkin, .int t_hasBend])), (tA_is, .inl (g.2.1 0, 18, .inl t_is)), (tA_row, .inl (g.2.1 0, 80, .inl t_row_1))] := hD
          exact J_10 (t_row_1 77) (t_row_1 72) E  H locs ls hP hD hS (lv_sub hl [] rfl)
    have E := E_7
    refine lv_if_ge (tgt := 87) hx hb dX5_tried_67 (by decide) (fun c_13 => ?_) (fun c_13 => ?_)
    · have E := x_pos E c_13
      refine lv_aload_n hx hb dX5_tried_87 rfl (lv_at hl 0 rfl) ?_
      refine va_get (ci := 5) (v := .int t_hiss) (C := RX5) (T := TX5) (N := 25) hx hb hts inlX5 hown hK.1 hP 0 rfl rfl 14 (by decide) (hts _ kw_607) (fun _ h9 => h9) rfl dX5_tried_88 ?_
      exact J_7 t_hiss E  H locs ls hP hD hS (lv_sub hl [0, 1, 2] rfl)
    · have E := x_neg E c_13
      refine lv_aload_n hx hb dX5_tried_70 rfl (lv_at hl 0 rfl) ?_
      refine va_get (ci := 5) (v := .ref tA_row) (C := RX5) (T := TX5) (N := 25) hx hb hts inlX5 hown hK.1 hP 0 rfl rfl 9 (by decide) (hts _ kw_97) (fun _ h9 => h9) rfl dX5_tried_71 ?_
      refine lv_iload_n hx hb dX5_tried_74 rfl (lv_at hl 1 rfl) ?_
      refine lv_bipush (v := 15) hx hb dX5_tried_75 (by decide) ?_
      refine lv_iadd hx hb dX5_tried_77 ?_
      refine x_eqi (nI_add 60 15) ?_
      refine x_ialdN hx hb hK hP 2 75 rfl (by omega) (by decide) dX5_tried_78 ?_
      refine lv_if_le (tgt := 87) hx hb dX5_tried_79 (by decide) (fun c_14 => ?_) (fun c_14 => ?_)
      · have E := x_pos E c_14
        refine lv_aload_n hx hb dX5_tried_87 rfl (lv_at hl 0 rfl) ?_
        refine va_get (ci := 5) (v := .int t_hiss) (C := RX5) (T := TX5) (N := 25) hx hb hts inlX5 hown hK.1 hP 0 rfl rfl 14 (by decide) (hts _ kw_607) (fun _ h9 => h9) rfl dX5_tried_88 ?_
        exact J_7 t_hiss E  H locs ls hP hD hS (lv_sub hl [0, 1, 2] rfl)
      · have E := x_neg E c_14
        refine lv_iload hx hb dX5_tried_82 (lv_at hl 2 rfl) ?_
        refine lv_goto (tgt := 91) hx hb dX5_tried_84 (by decide) ?_
        exact J_7 (t_row_1 72) E  H locs ls hP hD hS (lv_sub hl [0, 1, 2] rfl)
  have E := E_5
  refine x_if_neI (tgt := 55) hx hb dX5_tried_35 (by decide) (fun c_15 => ?_) (fun c_15 => ?_)
  · have E := x_neg E c_15
    refine lv_aload_n hx hb dX5_tried_55 rfl (lv_at hl 3 rfl) ?_
    refine va_get (ci := 5) (v := .int t_when) (C := RX5) (T := TX5) (N := 25) hx hb hts inlX5 hown hK.1 hP 0 rfl rfl 11 (by decide) (hts _ kw_99) (fun _ h9 => h9) rfl dX5_tried_56 ?_
    exact J_5 t_when E  H locs ls hP hD hS (lv_sub hl [3, 2, 0] rfl)
  · have E := x_pos E c_15
    refine lv_aload_n hx hb dX5_tried_38 rfl (lv_at hl 3 rfl) ?_
    refine va_get (ci := 5) (v := .ref tA_row) (C := RX5) (T := TX5) (N := 25) hx hb hts inlX5 hown hK.1 hP 0 rfl rfl 9 (by decide) (hts _ kw_97) (fun _ h9 => h9) rfl dX5_tried_39 ?_
    refine lv_iload_n hx hb dX5_tried_42 rfl (lv_at hl 2 rfl) ?_
    refine lv_bipush (v := 13) hx hb dX5_tried_43 (by decide) ?_
    refine lv_iadd hx hb dX5_tried_45 ?_
    refine x_eqi (nI_add 60 13) ?_
    refine x_ialdN hx hb hK hP 2 73 rfl (by omega) (by decide) dX5_tried_46 ?_
    refine lv_if_le (tgt := 55) hx hb dX5_tried_47 (by decide) (fun c_16 => ?_) (fun c_16 => ?_)
    · have E := x_pos E c_16
      refine lv_aload_n hx hb dX5_tried_55 rfl (lv_at hl 3 rfl) ?_
      refine va_get (ci := 5) (v := .int t_when) (C := RX5) (T := TX5) (N := 25) hx hb hts inlX5 hown hK.1 hP 0 rfl rfl 11 (by decide) (hts _ kw_99) (fun _ h9 => h9) rfl dX5_tried_56 ?_
      exact J_5 t_when E  H locs ls hP hD hS (lv_sub hl [3, 2, 0] rfl)
    · have E := x_neg E c_16
      refine lv_iload hx hb dX5_tried_50 (lv_at hl 0 rfl) ?_
      refine lv_goto (tgt := 59) hx hb dX5_tried_52 (by decide) ?_
      exact J_5 (t_row_1 72) E  H locs ls hP hD hS (lv_sub hl [3, 2, 0] rfl)
abbrev rX5_fresh : Room := { frames := 1, cells := 0, slots := 0, locals := 22 }
theorem vX5_fresh : yX5_fresh.cls = RX5 ∧ yX5_fresh.cls ≠ "java/lang/invoke/MethodHandle" ∧ yX5_fresh.cls ≠ "java/lang/invoke/VarHandle" ∧ (parseMethodDescriptor yX5_fresh.desc).map (fun d => d.parameters.length) = some 1 := by decide +kernel
abbrev wX5_fresh : List Cond := Cond.code yX5_fresh cX5_fresh 2 none :: wsL_law
def F_X5_fresh (t_is : Nat → Int32) (t_row : Nat → Int32) (a1 : Int32) : Int32 × Int32 × Int32 × Int32 × (Nat → Int32) :=
  x_nm (F_X5_begins t_is t_row 3) fun t_row_1 => x_nm (upd t_row_1 71 a1) fun t_row_4 => ((-9), 0, (-9), (-9), t_row_4)
set_option maxHeartbeats 4000000 in
set_option maxRecDepth 100000 in
theorem m_X5_fresh (l : Launch) (g : x_G) (tA tA_is tA_row tA_text tA_doings tA_doing tA_isKept tA_best tA_heats tA_orders tA_has tA_salt tA_crumbs : Nat) (t_length : Nat) (t_at : Nat) (t_begin : Nat) (t_told : Int32) (t_items : Int32) (t_when : Int32) (t_most : Int32) (t_mostAt : Int32) (t_hiss : Int32) (t_tests : Nat) (t_traced : Int64) (t_hasSkin : Int32) (t_hasBend : Int32) (t_is : Nat → Int32) (t_row : Nat → Int32) (a1 : Int32) : x_MetV l yX5_fresh wX5_fresh rX5_fresh g [.ref tA, .int a1] [(tA, .inr (5, [.int (nI t_length), .ref tA_text, .int (nI t_at), .int (nI t_begin), .int t_told, .ref tA_is, .ref tA_doings, .ref tA_doing, .int t_items, .ref tA_row, .ref tA_isKept, .int t_when, .int t_most, .int t_mostAt, .int t_hiss, .ref tA_best, .ref tA_heats, .ref tA_orders, .ref tA_has, .int (nI t_tests), .ref tA_salt, .ref tA_crumbs, .long t_traced, .int t_hasSkin, .int t_hasBend])), (tA_is, .inl (g.2.1 0, 18, .inl t_is)), (tA_row, .inl (g.2.1 0, 80, .inl t_row))] (fun u : Int32 × Int32 × Int32 × Int32 × (Nat → Int32) => u = F_X5_fresh t_is t_row a1) (fun u => [(tA, .inr (5, [.int (nI t_length), .ref tA_text, .int (nI t_at), .int (nI t_begin), .int t_told, .ref tA_is, .ref tA_doings, .ref tA_doing, .int t_items, .ref tA_row, .ref tA_isKept, .int u.1, .int u.2.1, .int u.2.2.1, .int u.2.2.2.1, .ref tA_best, .ref tA_heats, .ref tA_orders, .ref tA_has, .int (nI t_tests), .ref tA_salt, .ref tA_crumbs, .long t_traced, .int t_hasSkin, .int t_hasBend])), (tA_is, .inl (g.2.1 0, 18, .inl t_is)), (tA_row, .inl (g.2.1 0, 80, .inl u.2.2.2.2))]) := by
  refine x_startV (cc := cX5_fresh) (maxL := 2) (by decide) rfl (Nat.le_of_ble_eq_true rfl) ?_
  intro p e s m args below meth c Q A ls H locs hx hb hml hown hts hK hX hP hD hS hA hl RET
  have hown : s.vm.findClass RX5 = some m.cls := hown
  have hl : lv_has ls 2 [(0, .ref tA), (1, .int a1)] := hl
  obtain ⟨o_0, hO⟩ : ∃ z, z = F_X5_fresh t_is t_row a1 := ⟨_, rfl⟩
  have E := hO
  rw [F_X5_fresh.eq_1] at E
  refine lv_aload_n hx hb dX5_fresh_0 rfl (lv_at hl 0 rfl) ?_
  refine lv_iconst (v := 3) hx hb dX5_fresh_1 (by decide) ?_
  refine x_callVv (w2 := fun u => [(tA, .inr (5, [.int (nI t_length), .ref tA_text, .int (nI t_at), .int (nI t_begin), .int t_told, .ref tA_is, .ref tA_doings, .ref tA_doing, .int t_items, .ref tA_row, .ref tA_isKept, .int t_when, .int t_most, .int t_mostAt, .int t_hiss, .ref tA_best, .ref tA_heats, .ref tA_orders, .ref tA_has, .int (nI t_tests), .ref tA_salt, .ref tA_crumbs, .long t_traced, .int t_hasSkin, .int t_hasBend])), (tA_is, .inl (g.2.1 0, 18, .inl t_is)), (tA_row, .inl (g.2.1 0, 80, .inl u))]) (wr := []) [0, 1, 2] [] [0, 1, 2] 0 5 ⟨hx, hb, hml, hown, hts⟩ hK hX hP hD hS hA (m_X5_begins l g tA tA_is tA_row tA_text tA_doings tA_doing tA_isKept tA_best tA_heats tA_orders tA_has tA_salt tA_crumbs t_length t_at t_begin t_told t_items t_when t_most t_mostAt t_hiss t_tests t_traced t_hasSkin t_hasBend t_is t_row 3 (by first | assumption | omega | exact x_e8 (by assumption) (by assumption))) (cwV 1 hts (x_gV kw_106 kw_107 kw_108 kw_5 kw_109) rfl rfl rfl vX5_begins ⟨Nat.le_of_ble_eq_true rfl, Nat.le_of_ble_eq_true rfl⟩) rfl rfl rfl rfl rfl rfl rfl (by decide) (fun _ => rfl) rfl rfl hl.1 rfl (Nat.le_of_ble_eq_true rfl) dX5_fresh_2 ⟨Nat.zero_le _, Nat.zero_le _⟩ (fun t_row_1 H locs hw_2 hP hD hS => ?_)
  have hP : va_P g.1 vwCl [(tA, .inr (5, [.int (nI t_length), .ref tA_text, .int (nI t_at), .int (nI t_begin), .int t_told, .ref tA_is, .ref tA_doings, .ref tA_doing, .int t_items, .ref tA_row, .ref tA_isKept, .int t_when, .int t_most, .int t_mostAt, .int t_hiss, .ref tA_best, .ref tA_heats, .ref tA_orders, .ref tA_has, .int (nI t_tests), .ref tA_salt, .ref tA_crumbs, .long t_traced, .int t_hasSkin, .int t_hasBend])), (tA_is, .inl (g.2.1 0, 18, .inl t_is)), (tA_row, .inl (g.2.1 0, 80, .inl t_row_1))] H := hP
  have hD : va_D A [(tA, .inr (5, [.int (nI t_length), .ref tA_text, .int (nI t_at), .int (nI t_begin), .int t_told, .ref tA_is, .ref tA_doings, .ref tA_doing, .int t_items, .ref tA_row, .ref tA_isKept, .int t_when, .int t_most, .int t_mostAt, .int t_hiss, .ref tA_best, .ref tA_heats, .ref tA_orders, .ref tA_has, .int (nI t_tests), .ref tA_salt, .ref tA_crumbs, .long t_traced, .int t_hasSkin, .int t_hasBend])), (tA_is, .inl (g.2.1 0, 18, .inl t_is)), (tA_row, .inl (g.2.1 0, 80, .inl t_row_1))] := hD
  have E := x_nm_eq E hw_2
  refine lv_aload_n hx hb dX5_fresh_5 rfl (lv_at hl 0 rfl) ?_
  refine va_get (ci := 5) (v := .ref tA_row) (C := RX5) (T := TX5) (N := 25) hx hb hts inlX5 hown hK.1 hP 0 rfl rfl 9 (by decide) (hts _ kw_97) (fun _ h9 => h9) rfl dX5_fresh_6 ?_
  refine lv_bipush (v := 71) hx hb dX5_fresh_9 (by decide) ?_
  refine lv_iload_n hx hb dX5_fresh_11 rfl (lv_at hl 1 rfl) ?_
  refine x_iastN hx hb hK hP hD hS 2 71 rfl (by omega) (by decide) dX5_fresh_12 (fun t_row_4 H locs hf hP hD hS => ?_)
  have hP : va_P g.1 vwCl [(tA, .inr (5, [.int (nI t_length), .ref tA_text, .int (nI t_at), .int (nI t_begin), .int t_told, .ref tA_is, .ref tA_doings, .ref tA_doing, .int t_items, .ref tA_row, .ref tA_isKept, .int t_when, .int t_most, .int t_mostAt, .int t_hiss, .ref tA_best, .ref tA_heats, .ref tA_orders, .ref tA_has, .int (nI t_tests), .ref tA_salt, .ref tA_crumbs, .long t_traced, .int t_hasSkin, .int t_hasBend])), (tA_is, .inl (g.2.1 0, 18, .inl t_is)), (tA_row, .inl (g.2.1 0, 80, .inl t_row_4))] H := hP
  have hD : va_D A [(tA, .inr (5, [.int (nI t_length), .ref tA_text, .int (nI t_at), .int (nI t_begin), .int t_told, .ref tA_is, .ref tA_doings, .ref tA_doing, .int t_items, .ref tA_row, .ref tA_isKept, .int t_when, .int t_most, .int t_mostAt, .int t_hiss, .ref tA_best, .ref tA_heats, .ref tA_orders, .ref tA_has, .int (nI t_tests), .ref tA_salt, .ref tA_crumbs, .long t_traced, .int t_hasSkin, .int t_hasBend])), (tA_is, .inl (g.2.1 0, 18, .inl t_is)), (tA_row, .inl (g.2.1 0, 80, .inl t_row_4))] := hD
  have E := x_nm_eq E hf
  refine lv_aload_n hx hb dX5_fresh_13 rfl (lv_at hl 0 rfl) ?_
  refine lv_bipush (v := (-9)) hx hb dX5_fresh_14 (by decide) ?_
  refine va_put (ci := 5) (v := .int (-9)) (ty := .int) (C := RX5) (T := TX5) (N := 25) hx hb hts inlX5 tyX5 tyX5_ok nmX5 hown hK.1 hP hD hS 0 rfl rfl 11 (by decide) (hts _ kw_99) (fun _ h9 => h9) rfl (tyX5_ok 11 (by decide)) rfl rfl (Nat.le_of_ble_eq_true rfl) dX5_fresh_16 (fun H locs hP hD hS => ?_)
  have hP : va_P g.1 vwCl [(tA, .inr (5, [.int (nI t_length), .ref tA_text, .int (nI t_at), .int (nI t_begin), .int t_told, .ref tA_is, .ref tA_doings, .ref tA_doing, .int t_items, .ref tA_row, .ref tA_isKept, .int (-9), .int t_most, .int t_mostAt, .int t_hiss, .ref tA_best, .ref tA_heats, .ref tA_orders, .ref tA_has, .int (nI t_tests), .ref tA_salt, .ref tA_crumbs, .long t_traced, .int t_hasSkin, .int t_hasBend])), (tA_is, .inl (g.2.1 0, 18, .inl t_is)), (tA_row, .inl (g.2.1 0, 80, .inl t_row_4))] H := hP
  have hD : va_D A [(tA, .inr (5, [.int (nI t_length), .ref tA_text, .int (nI t_at), .int (nI t_begin), .int t_told, .ref tA_is, .ref tA_doings, .ref tA_doing, .int t_items, .ref tA_row, .ref tA_isKept, .int (-9), .int t_most, .int t_mostAt, .int t_hiss, .ref tA_best, .ref tA_heats, .ref tA_orders, .ref tA_has, .int (nI t_tests), .ref tA_salt, .ref tA_crumbs, .long t_traced, .int t_hasSkin, .int t_hasBend])), (tA_is, .inl (g.2.1 0, 18, .inl t_is)), (tA_row, .inl (g.2.1 0, 80, .inl t_row_4))] := hD
  refine lv_aload_n hx hb dX5_fresh_19 rfl (lv_at hl 0 rfl) ?_
  refine lv_iconst (v := 0) hx hb dX5_fresh_20 (by decide) ?_
  refine va_put (ci := 5) (v := .int 0) (ty := .int) (C := RX5) (T := TX5) (N := 25) hx hb hts inlX5 tyX5 tyX5_ok nmX5 hown hK.1 hP hD hS 0 rfl rfl 12 (by decide) (hts _ kw_605) (fun _ h9 => h9) rfl (tyX5_ok 12 (by decide)) rfl rfl (Nat.le_of_ble_eq_true rfl) dX5_fresh_21 (fun H locs hP hD hS => ?_)
  have hP : va_P g.1 vwCl [(tA, .inr (5, [.int (nI t_length), .ref tA_text, .int (nI t_at), .int (nI t_begin), .int t_told, .ref tA_is, .ref tA_doings, .ref tA_doing, .int t_items, .ref tA_row, .ref tA_isKept, .int (-9), .int 0, .int t_mostAt, .int t_hiss, .ref tA_best, .ref tA_heats, .ref tA_orders, .ref tA_has, .int (nI t_tests), .ref tA_salt, .ref tA_crumbs, .long t_traced, .int t_hasSkin, .int t_hasBend])), (tA_is, .inl (g.2.1 0, 18, .inl t_is)), (tA_row, .inl (g.2.1 0, 80, .inl t_row_4))] H := hP
  have hD : va_D A [(tA, .inr (5, [.int (nI t_length), .ref tA_text, .int (nI t_at), .int (nI t_begin), .int t_told, .ref tA_is, .ref tA_doings, .ref tA_doing, .int t_items, .ref tA_row, .ref tA_isKept, .int (-9), .int 0, .int t_mostAt, .int t_hiss, .ref tA_best, .ref tA_heats, .ref tA_orders, .ref tA_has, .int (nI t_tests), .ref tA_salt, .ref tA_crumbs, .long t_traced, .int t_hasSkin, .int t_hasBend])), (tA_is, .inl (g.2.1 0, 18, .inl t_is)), (tA_row, .inl (g.2.1 0, 80, .inl t_row_4))] := hD
  refine lv_aload_n hx hb dX5_fresh_24 rfl (lv_at hl 0 rfl) ?_
  refine lv_bipush (v := (-9)) hx hb dX5_fresh_25 (by decide) ?_
  refine va_put (ci := 5) (v := .int (-9)) (ty := .int) (C := RX5) (T := TX5) (N := 25) hx hb hts inlX5 tyX5 tyX5_ok nmX5 hown hK.1 hP hD hS 0 rfl rfl 13 (by decide) (hts _ kw_606) (fun _ h9 => h9) rfl (tyX5_ok 13 (by decide)) rfl rfl (Nat.le_of_ble_eq_true rfl) dX5_fresh_27 (fun H locs hP hD hS => ?_)
  have hP : va_P g.1 vwCl [(tA, .inr (5, [.int (nI t_length), .ref tA_text, .int (nI t_at), .int (nI t_begin), .int t_told, .ref tA_is, .ref tA_doings, .ref tA_doing, .int t_items, .ref tA_row, .ref tA_isKept, .int (-9), .int 0, .int (-9), .int t_hiss, .ref tA_best, .ref tA_heats, .ref tA_orders, .ref tA_has, .int (nI t_tests), .ref tA_salt, .ref tA_crumbs, .long t_traced, .int t_hasSkin, .int t_hasBend])), (tA_is, .inl (g.2.1 0, 18, .inl t_is)), (tA_row, .inl (g.2.1 0, 80, .inl t_row_4))] H := hP
  have hD : va_D A [(tA, .inr (5, [.int (nI t_length), .ref tA_text, .int (nI t_at), .int (nI t_begin), .int t_told, .ref tA_is, .ref tA_doings, .ref tA_doing, .int t_items, .ref tA_row, .ref tA_isKept, .int (-9), .int 0, .int (-9), .int t_hiss, .ref tA_best, .ref tA_heats, .ref tA_orders, .ref tA_has, .int (nI t_tests), .ref tA_salt, .ref tA_crumbs, .long t_traced, .int t_hasSkin, .int t_hasBend])), (tA_is, .inl (g.2.1 0, 18, .inl t_is)), (tA_row, .inl (g.2.1 0, 80, .inl t_row_4))] := hD
  refine lv_aload_n hx hb dX5_fresh_30 rfl (lv_at hl 0 rfl) ?_
  refine lv_bipush (v := (-9)) hx hb dX5_fresh_31 (by decide) ?_
  refine va_put (ci := 5) (v := .int (-9)) (ty := .int) (C := RX5) (T := TX5) (N := 25) hx hb hts inlX5 tyX5 tyX5_ok nmX5 hown hK.1 hP hD hS 0 rfl rfl 14 (by decide) (hts _ kw_607) (fun _ h9 => h9) rfl (tyX5_ok 14 (by decide)) rfl rfl (Nat.le_of_ble_eq_true rfl) dX5_fresh_33 (fun H locs hP hD hS => ?_)
  have hP : va_P g.1 vwCl [(tA, .inr (5, [.int (nI t_length), .ref tA_text, .int (nI t_at), .int (nI t_begin), .int t_told, .ref tA_is, .ref tA_doings, .ref tA_doing, .int t_items, .ref tA_row, .ref tA_isKept, .int (-9), .int 0, .int (-9), .int (-9), .ref tA_best, .ref tA_heats, .ref tA_orders, .ref tA_has, .int (nI t_tests), .ref tA_salt, .ref tA_crumbs, .long t_traced, .int t_hasSkin, .int t_hasBend])), (tA_is, .inl (g.2.1 0, 18, .inl t_is)), (tA_row, .inl (g.2.1 0, 80, .inl t_row_4))] H := hP
  have hD : va_D A [(tA, .inr (5, [.int (nI t_length), .ref tA_text, .int (nI t_at), .int (nI t_begin), .int t_told, .ref tA_is, .ref tA_doings, .ref tA_doing, .int t_items, .ref tA_row, .ref tA_isKept, .int (-9), .int 0, .int (-9), .int (-9), .ref tA_best, .ref tA_heats, .ref tA_orders, .ref tA_has, .int (nI t_tests), .ref tA_salt, .ref tA_crumbs, .long t_traced, .int t_hasSkin, .int t_hasBend])), (tA_is, .inl (g.2.1 0, 18, .inl t_is)), (tA_row, .inl (g.2.1 0, 80, .inl t_row_4))] := hD
  exact RET ((-9), 0, (-9), (-9), t_row_4) H locs _ _ (E.symm.trans hO) hP hD hS dX5_fresh_36
abbrev rX5_plan : Room := { frames := 3, cells := 0, slots := 0, locals := 80 }
theorem vX5_plan : yX5_plan.cls = RX5 ∧ yX5_plan.cls ≠ "java/lang/invoke/MethodHandle" ∧ yX5_plan.cls ≠ "java/lang/invoke/VarHandle" ∧ (parseMethodDescriptor yX5_plan.desc).map (fun d => d.parameters.length) = some 1 := by decide +kernel
abbrev wX5_plan : List Cond := Cond.code yX5_plan cX5_plan 7 none :: wsL_law
def F_X5_plan_L69 (t_is : Nat → Int32) (t_doing : Nat → Int32) (k2_7 : Nat) (v_17 : Int32) : Nat → Nat → Int32 → Int32 → Int32 → Int32 → (Nat → Int32) → Int32 × Int32 × Int32 × Int32 × (Nat → Int32)
  | 0, k6_37, t_when_38, t_most_39, t_mostAt_40, t_hiss_41, t_row_42 => (t_when_38, t_most_39, t_mostAt_40, t_hiss_41, t_row_42)
  | n_43 + 1, k6_37, t_when_38, t_most_39, t_mostAt_40, t_hiss_41, t_row_42 => if ((t_doing (3 * k2_7 + 2)).toNatClampNeg) ≤ k6_37 then (t_when_38, t_most_39, t_mostAt_40, t_hiss_41, t_row_42) else x_nm (α := Int32) (if (t_doing (3 * k2_7)) = 3 then 1 else 0) fun u_46 => x_nm (F_X5_tried t_is t_row_42 t_when_38 t_most_39 t_mostAt_40 t_hiss_41 v_17 u_46) fun u_53 => F_X5_plan_L69 t_is t_doing k2_7 v_17 n_43 (k6_37 + 1) u_53.1 u_53.2.1 u_53.2.2.1 u_53.2.2.2.1 u_53.2.2.2.2
def F_X5_plan_L2 (t_is : Nat → Int32) (t_doings : Nat → Int32) (t_doing : Nat → Int32) (a1 : Int32) : Nat → Nat → Int32 → Int32 → Int32 → Int32 → (Nat → Int32) → Int32 × Int32 × Int32 × Int32 × (Nat → Int32)
  | 0, k2_7, t_when_8, t_most_9, t_mostAt_10, t_hiss_11, t_row_12 => (t_when_8, t_most_9, t_mostAt_10, t_hiss_11, t_row_12)
  | n_13 + 1, k2_7, t_when_8, t_most_9, t_mostAt_10, t_hiss_11, t_row_12 => if ((t_doings 0).toNatClampNeg) ≤ k2_7 then (t_when_8, t_most_9, t_mostAt_10, t_hiss_11, t_row_12) else x_nm (α := Int32) (if (t_doing (3 * k2_7)) = 0 then (t_doing ((3 * k2_7) + 1)) + a1 else t_doing ((3 * k2_7) + 1)) fun u_16 => x_nm (α := Int32) (if u_16 ≤ 300 then u_16 else 300) fun u_18 => x_nm (α := Int32 × Int32 × Int32 × Int32 × (Nat → Int32)) (F_X5_plan_L69 t_is t_doing k2_7 u_18 ((t_doing (3 * k2_7 + 2)).toNatClampNeg + 1) 0 t_when_8 t_most_9 t_mostAt_10 t_hiss_11 t_row_12) fun u_24 => x_nm (α := (Nat → Int32)) (if (t_doing (3 * k2_7)) = 1 then x_nm (F_X5_turns u_24.2.2.2.2 3 (t_doing ((3 * k2_7) + 1))) fun t_row_34 => t_row_34 else u_24.2.2.2.2) fun u_26 => x_nm (α := (Nat → Int32)) (if (t_doing (3 * k2_7)) = 2 then x_nm (F_X5_pricked u_26 3 (t_doing ((3 * k2_7) + 1))) fun t_row_30 => t_row_30 else u_26) fun u_28 => F_X5_plan_L2 t_is t_doings t_doing a1 n_13 (k2_7 + 1) u_24.1 u_24.2.1 u_24.2.2.1 u_24.2.2.2.1 u_28
def F_X5_plan (t_is : Nat → Int32) (t_doings : Nat → Int32) (t_doing : Nat → Int32) (t_row : Nat → Int32) (t_when : Int32) (t_most : Int32) (t_mostAt : Int32) (t_hiss : Int32) (a1 : Int32) : Int32 × Int32 × Int32 × Int32 × (Nat → Int32) :=
  x_nm (α := Int32 × Int32 × Int32 × Int32 × (Nat → Int32)) (F_X5_plan_L2 t_is t_doings t_doing a1 ((t_doings 0).toNatClampNeg + 1) 0 t_when t_most t_mostAt t_hiss t_row) fun u_6 => (u_6.1, u_6.2.1, u_6.2.2.1, u_6.2.2.2.1, u_6.2.2.2.2)
set_option maxHeartbeats 4000000 in
set_option maxRecDepth 100000 in
theorem m_X5_plan (l : Launch) (g : x_G) (tA tA_is tA_doings tA_doing tA_row tA_text tA_isKept tA_best tA_heats tA_orders tA_has tA_salt tA_crumbs : Nat) (t_length : Nat) (t_at : Nat) (t_begin : Nat) (t_told : Int32) (t_items : Int32) (t_when : Int32) (t_most : Int32) (t_mostAt : Int32) (t_hiss : Int32) (t_tests : Nat) (t_traced : Int64) (t_hasSkin : Int32) (t_hasBend : Int32) (t_is : Nat → Int32) (t_doings : Nat → Int32) (t_doing : Nat → Int32) (t_row : Nat → Int32) (a1 : Int32) (h_0 : (t_doings 0).toNatClampNeg ≤ 12) (h_1 : t_doings 0 = nI (t_doings 0).toNatClampNeg) (h_2 : ∀ k : Nat, k < 12 → (t_doing (3 * k + 2)).toNatClampNeg ≤ 99 ∧ t_doing (3 * k + 2) = nI (t_doing (3 * k + 2)).toNatClampNeg) (h_3 : ¬ 8 * t_is 0 = 0) : x_MetV l yX5_plan wX5_plan rX5_plan g [.ref tA, .int a1] [(tA, .inr (5, [.int (nI t_length), .ref tA_text, .int (nI t_at), .int (nI t_begin), .int t_told, .ref tA_is, .ref tA_doings, .ref tA_doing, .int t_items, .ref tA_row, .ref tA_isKept, .int t_when, .int t_most, .int t_mostAt, .int t_hiss, .ref tA_best, .ref tA_heats, .ref tA_orders, .ref tA_has, .int (nI t_tests), .ref tA_salt, .ref tA_crumbs, .long t_traced, .int t_hasSkin, .int t_hasBend])), (tA_is, .inl (g.2.1 0, 18, .inl t_is)), (tA_doings, .inl (g.2.1 0, 2, .inl t_doings)), (tA_doing, .inl (g.2.1 0, 72, .inl t_doing)), (tA_row, .inl (g.2.1 0, 80, .inl t_row))] (fun u : Int32 × Int32 × Int32 × Int32 × (Nat → Int32) => u = F_X5_plan t_is t_doings t_doing t_row t_when t_most t_mostAt t_hiss a1) (fun u => [(tA, .inr (5, [.int (nI t_length), .ref tA_text, .int (nI t_at), .int (nI t_begin), .int t_told, .ref tA_is, .ref tA_doings, .ref tA_doing, .int t_items, .ref tA_row, .ref tA_isKept, .int u.1, .int u.2.1, .int u.2.2.1, .int u.2.2.2.1, .ref tA_best, .ref tA_heats, .ref tA_orders, .ref tA_has, .int (nI t_tests), .ref tA_salt, .ref tA_crumbs, .long t_traced, .int t_hasSkin, .int t_hasBend])), (tA_is, .inl (g.2.1 0, 18, .inl t_is)), (tA_doings, .inl (g.2.1 0, 2, .inl t_doings)), (tA_doing, .inl (g.2.1 0, 72, .inl t_doing)), (tA_row, .inl (g.2.1 0, 80, .inl u.2.2.2.2))]) := by
  refine x_startV (cc := cX5_plan) (maxL := 7) (by decide) rfl (Nat.le_of_ble_eq_true rfl) ?_
  intro p e s m args below meth c Q A ls H locs hx hb hml hown hts hK hX hP hD hS hA hl RET
  have hown : s.vm.findClass RX5 = some m.cls := hown
  have hl : lv_has ls 7 [(0, .ref tA), (1, .int a1)] := hl
  obtain ⟨o_0, hO⟩ : ∃ z, z = F_X5_plan t_is t_doings t_doing t_row t_when t_most t_mostAt t_hiss a1 := ⟨_, rfl⟩
  have E := hO
  rw [F_X5_plan.eq_1] at E
  refine lv_iconst (v := 0) hx hb dX5_plan_0 (by decide) ?_
  refine lv_istore_n (lv' := [(2, .int 0), (0, .ref tA), (1, .int a1)]) hx hb dX5_plan_1 rfl hl (by decide) rfl (fun ls hl => ?_)
  obtain ⟨o_6, E_6, E⟩ := x_nm_ex E
  have J_6 : ∀ (t_when_1 : Int32) (t_most_2 : Int32) (t_mostAt_3 : Int32) (t_hiss_4 : Int32) (t_row_5 : Nat → Int32), o_6 = (t_when_1, t_most_2, t_mostAt_3, t_hiss_4, t_row_5) → ∀ (H : Heap) (locs : List Loc) (ls : Array Slot), va_P g.1 vwCl [(tA, .inr (5, [.int (nI t_length), .ref tA_text, .int (nI t_at), .int (nI t_begin), .int t_told, .ref tA_is, .ref tA_doings, .ref tA_doing, .int t_items, .ref tA_row, .ref tA_isKept, .int t_when_1, .int t_most_2, .int t_mostAt_3, .int t_hiss_4, .ref tA_best, .ref tA_heats, .ref tA_orders, .ref tA_has, .int (nI t_tests), .ref tA_salt, .ref tA_crumbs, .long t_traced, .int t_hasSkin, .int t_hasBend])), (tA_is, .inl (g.2.1 0, 18, .inl t_is)), (tA_doings, .inl (g.2.1 0, 2, .inl t_doings)), (tA_doing, .inl (g.2.1 0, 72, .inl t_doing)), (tA_row, .inl (g.2.1 0, 80, .inl t_row_5))] H → va_D A [(tA, .inr (5, [.int (nI t_length), .ref tA_text, .int (nI t_at), .int (nI t_begin), .int t_told, .ref tA_is, .ref tA_doings, .ref tA_doing, .int t_items, .ref tA_row, .ref tA_isKept, .int t_when_1, .int t_most_2, .int t_mostAt_3, .int t_hiss_4, .ref tA_best, .ref tA_heats, .ref tA_orders, .ref tA_has, .int (nI t_tests), .ref tA_salt, .ref tA_crumbs, .long t_traced, .int t_hasSkin, .int t_hasBend])), (tA_is, .inl (g.2.1 0, 18, .inl t_is)), (tA_doings, .inl (g.2.1 0, 2, .inl t_doings)), (tA_doing, .inl (g.2.1 0, 72, .inl t_doing)), (tA_row, .inl (g.2.1 0, 80, .inl t_row_5))] → va_S A s.heap H locs → lv_has ls 7 [] → W p l e rX5_plan s m args below meth c H locs 0 0 Q (F0 m 136 ls []) := by
    intro t_when_1 t_most_2 t_mostAt_3 t_hiss_4 t_row_5 hE  H locs ls hP hD hS hl
    try rw [hE] at E
    exact RET (t_when_1, t_most_2, t_mostAt_3, t_hiss_4, t_row_5) H locs _ _ (E.symm.trans hO) hP hD hS dX5_plan_136
  have E := E_6
  have L_13 : ∀ (n_13 : Nat) (k2_7 : Nat) (t_when_8 : Int32) (t_most_9 : Int32) (t_mostAt_10 : Int32) (t_hiss_11 : Int32) (t_row_12 : Nat → Int32), (k2_7 ≤ (t_doings 0).toNatClampNeg) → (((t_doings 0).toNatClampNeg - k2_7) < n_13) → o_6 = F_X5_plan_L2 t_is t_doings t_doing a1 n_13 k2_7 t_when_8 t_most_9 t_mostAt_10 t_hiss_11 t_row_12 → ∀ (H : Heap) (locs : List Loc) (ls : Array Slot), va_P g.1 vwCl [(tA, .inr (5, [.int (nI t_length), .ref tA_text, .int (nI t_at), .int (nI t_begin), .int t_told, .ref tA_is, .ref tA_doings, .ref tA_doing, .int t_items, .ref tA_row, .ref tA_isKept, .int t_when_8, .int t_most_9, .int t_mostAt_10, .int t_hiss_11, .ref tA_best, .ref tA_heats, .ref tA_orders, .ref tA_has, .int (nI t_tests), .ref tA_salt, .ref tA_crumbs, .long t_traced, .int t_hasSkin, .int t_hasBend])), (tA_is, .inl (g.2.1 0, 18, .inl t_is)), (tA_doings, .inl (g.2.1 0, 2, .inl t_doings)), (tA_doing, .inl (g.2.1 0, 72, .inl t_doing)), (tA_row, .inl (g.2.1 0, 80, .inl t_row_12))] H → va_D A [(tA, .inr (5, [.int (nI t_length), .ref tA_text, .int (nI t_at), .int (nI t_begin), .int t_told, .ref tA_is, .ref tA_doings, .ref tA_doing, .int t_items, .ref tA_row, .ref tA_isKept, .int t_when_8, .int t_most_9, .int t_mostAt_10, .int t_hiss_11, .ref tA_best, .ref tA_heats, .ref tA_orders, .ref tA_has, .int (nI t_tests), .ref tA_salt, .ref tA_crumbs, .long t_traced, .int t_hasSkin, .int t_hasBend])), (tA_is, .inl (g.2.1 0, 18, .inl t_is)), (tA_doings, .inl (g.2.1 0, 2, .inl t_doings)), (tA_doing, .inl (g.2.1 0, 72, .inl t_doing)), (tA_row, .inl (g.2.1 0, 80, .inl t_row_12))] → va_S A s.heap H locs → lv_has ls 7 [(0, .ref tA), (1, .int a1), (2, .int (nI k2_7))] → W p l e rX5_plan s m args below meth c H locs 0 0 Q (F0 m 2 ls []) := by
    intro n_13
    induction n_13 with
    | zero => intro k2_7 t_when_8 t_most_9 t_mostAt_10 t_hiss_11 t_row_12 i_13_0 i_13_1; exact absurd i_13_1 (by omega)
    | succ n_13 ih_13 =>
      intro k2_7 t_when_8 t_most_9 t_mostAt_10 t_hiss_11 t_row_12 i_13_0 i_13_1 E H locs ls hP hD hS hl
      rw [F_X5_plan_L2.eq_2] at E
      refine lv_iload_n hx hb dX5_plan_2 rfl (lv_at hl 2 rfl) ?_
      refine lv_aload_n hx hb dX5_plan_3 rfl (lv_at hl 0 rfl) ?_
      refine va_get (ci := 5) (v := .ref tA_doings) (C := RX5) (T := TX5) (N := 25) hx hb hts inlX5 hown hK.1 hP 0 rfl rfl 6 (by decide) (hts _ kw_95) (fun _ h9 => h9) rfl dX5_plan_4 ?_
      refine lv_iconst (v := 0) hx hb dX5_plan_7 (by decide) ?_
      refine x_ialdN hx hb hK hP 2 0 rfl (by omega) (by decide) dX5_plan_8 ?_
      refine x_eqi (h_1) ?_
      refine x_icmp_ge (a := k2_7) (b := ((t_doings 0).toNatClampNeg)) (tgt := 136) hx hb (by omega) (by omega) dX5_plan_9 (by decide) (fun c_14 => ?_) (fun c_14 => ?_)
      · have E := x_pos E c_14
        exact J_6 t_when_8 t_most_9 t_mostAt_10 t_hiss_11 t_row_12 E  H locs ls hP hD hS (lv_sub hl [] rfl)
      · have E := x_neg E c_14
        refine lv_aload_n hx hb dX5_plan_12 rfl (lv_at hl 0 rfl) ?_
        refine va_get (ci := 5) (v := .ref tA_doing) (C := RX5) (T := TX5) (N := 25) hx hb hts inlX5 hown hK.1 hP 0 rfl rfl 7 (by decide) (hts _ kw_96) (fun _ h9 => h9) rfl dX5_plan_13 ?_
        refine lv_iconst (v := 3) hx hb dX5_plan_16 (by decide) ?_
        refine lv_iload_n hx hb dX5_plan_17 rfl (lv_at hl 2 rfl) ?_
        refine lv_imul hx hb dX5_plan_18 ?_
        refine x_eqi (pk_mul 3 k2_7) ?_
        refine x_ialdN hx hb hK hP 3 (3 * k2_7) rfl (by omega) (by decide) dX5_plan_19 ?_
        refine lv_istore_n (lv' := [(3, .int (t_doing (3 * k2_7))), (0, .ref tA), (1, .int a1), (2, .int (nI k2_7))]) hx hb dX5_plan_20 rfl hl (by decide) rfl (fun ls hl => ?_)
        refine lv_aload_n hx hb dX5_plan_21 rfl (lv_at hl 1 rfl) ?_
        refine va_get (ci := 5) (v := .ref tA_doing) (C := RX5) (T := TX5) (N := 25) hx hb hts inlX5 hown hK.1 hP 0 rfl rfl 7 (by decide) (hts _ kw_96) (fun _ h9 => h9) rfl dX5_plan_22 ?_
        refine lv_iconst (v := 3) hx hb dX5_plan_25 (by decide) ?_
        refine lv_iload_n hx hb dX5_plan_26 rfl (lv_at hl 3 rfl) ?_
        refine lv_imul hx hb dX5_plan_27 ?_
        refine x_eqi (pk_mul 3 k2_7) ?_
        refine lv_iconst (v := 1) hx hb dX5_plan_28 (by decide) ?_
        refine lv_iadd hx hb dX5_plan_29 ?_
        refine x_eqi (nI_add (3 * k2_7) 1) ?_
        refine x_ialdN hx hb hK hP 3 ((3 * k2_7) + 1) rfl (by omega) (by decide) dX5_plan_30 ?_
        refine lv_istore (lv' := [(4, .int (t_doing ((3 * k2_7) + 1))), (3, .int (t_doing (3 * k2_7))), (0, .ref tA), (1, .int a1), (2, .int (nI k2_7))]) hx hb dX5_plan_31 hl (by decide) rfl (fun ls hl => ?_)
        refine lv_iload_n hx hb dX5_plan_33 rfl (lv_at hl 1 rfl) ?_
        obtain ⟨o_16, E_16, E⟩ := x_nm_ex E
        have J_16 : ∀ (v_15 : Int32), o_16 = v_15 → ∀ (H : Heap) (locs : List Loc) (ls : Array Slot), va_P g.1 vwCl [(tA, .inr (5, [.int (nI t_length), .ref tA_text, .int (nI t_at), .int (nI t_begin), .int t_told, .ref tA_is, .ref tA_doings, .ref tA_doing, .int t_items, .ref tA_row, .ref tA_isKept, .int t_when_8, .int t_most_9, .int t_mostAt_10, .int t_hiss_11, .ref tA_best, .ref tA_heats, .ref tA_orders, .ref tA_has, .int (nI t_tests), .ref tA_salt, .ref tA_crumbs, .long t_traced, .int t_hasSkin, .int t_hasBend])), (tA_is, .inl (g.2.1 0, 18, .inl t_is)), (tA_doings, .inl (g.2.1 0, 2, .inl t_doings)), (tA_doing, .inl (g.2.1 0, 72, .inl t_doing)), (tA_row, .inl (g.2.1 0, 80, .inl t_row_12))] H → va_D A [(tA, .inr (5, [.int (nI t_length), .ref tA_text, .int (nI t_at), .int (nI t_begin), .int t_told, .ref tA_is, .ref tA_doings, .ref tA_doing, .int t_items, .ref tA_row, .ref tA_isKept, .int t_when_8, .int t_most_9, .int t_mostAt_10, .int t_hiss_11, .ref tA_best, .ref tA_heats, .ref tA_orders, .ref tA_has, .int (nI t_tests), .ref tA_salt, .ref tA_crumbs, .long t_traced, .int t_hasSkin, .int t_hasBend])), (tA_is, .inl (g.2.1 0, 18, .inl t_is)), (tA_doings, .inl (g.2.1 0, 2, .inl t_doings)), (tA_doing, .inl (g.2.1 0, 72, .inl t_doing)), (tA_row, .inl (g.2.1 0, 80, .inl t_row_12))] → va_S A s.heap H locs → lv_has ls 7 [(0, .ref tA), (1, .int a1), (2, .int (nI k2_7)), (3, .int (t_doing (3 * k2_7))), (4, .int (t_doing ((3 * k2_7) + 1)))] → W p l e rX5_plan s m args below meth c H locs 0 0 Q (F0 m 46 ls [.int v_15]) := by
          intro v_15 hE  H locs ls hP hD hS hl
          try rw [hE] at E
          refine lv_istore (lv' := [(5, .int v_15), (0, .ref tA), (1, .int a1), (2, .int (nI k2_7)), (3, .int (t_doing (3 * k2_7))), (4, .int (t_doing ((3 * k2_7) + 1)))]) hx hb dX5_plan_46 hl (by decide) rfl (fun ls hl => ?_)
          refine lv_iload hx hb dX5_plan_48 (lv_at hl 0 rfl) ?_
          refine lv_sipush (v := 300) hx hb dX5_plan_50 (by decide) ?_
          obtain ⟨o_18, E_18, E⟩ := x_nm_ex E
          have J_18 : ∀ (v_17 : Int32), o_18 = v_17 → ∀ (H : Heap) (locs : List Loc) (ls : Array Slot), va_P g.1 vwCl [(tA, .inr (5, [.int (nI t_length), .ref tA_text, .int (nI t_at), .int (nI t_begin), .int t_told, .ref tA_is, .ref tA_doings, .ref tA_doing, .int t_items, .ref tA_row, .ref tA_isKept, .int t_when_8, .int t_most_9, .int t_mostAt_10, .int t_hiss_11, .ref tA_best, .ref tA_heats, .ref tA_orders, .ref tA_has, .int (nI t_tests), .ref tA_salt, .ref tA_crumbs, .long t_traced, .int t_hasSkin, .int t_hasBend])), (tA_is, .inl (g.2.1 0, 18, .inl t_is)), (tA_doings, .inl (g.2.1 0, 2, .inl t_doings)), (tA_doing, .inl (g.2.1 0, 72, .inl t_doing)), (tA_row, .inl (g.2.1 0, 80, .inl t_row_12))] H → va_D A [(tA, .inr (5, [.int (nI t_length), .ref tA_text, .int (nI t_at), .int (nI t_begin), .int t_told, .ref tA_is, .ref tA_doings, .ref tA_doing, .int t_items, .ref tA_row, .ref tA_isKept, .int t_when_8, .int t_most_9, .int t_mostAt_10, .int t_hiss_11, .ref tA_best, .ref tA_heats, .ref tA_orders, .ref tA_has, .int (nI t_tests), .ref tA_salt, .ref tA_crumbs, .long t_traced, .int t_hasSkin, .int t_hasBend])), (tA_is, .inl (g.2.1 0, 18, .inl t_is)), (tA_doings, .inl (g.2.1 0, 2, .inl t_doings)), (tA_doing, .inl (g.2.1 0, 72, .inl t_doing)), (tA_row, .inl (g.2.1 0, 80, .inl t_row_12))] → va_S A s.heap H locs → lv_has ls 7 [(0, .ref tA), (1, .int a1), (2, .int (nI k2_7)), (3, .int (t_doing (3 * k2_7))), (4, .int (t_doing ((3 * k2_7) + 1)))] → W p l e rX5_plan s m args below meth c H locs 0 0 Q (F0 m 64 ls [.int v_17]) := by
            intro v_17 hE  H locs ls hP hD hS hl
            try rw [hE] at E
            refine lv_istore (lv' := [(5, .int v_17), (0, .ref tA), (1, .int a1), (2, .int (nI k2_7)), (3, .int (t_doing (3 * k2_7))), (4, .int (t_doing ((3 * k2_7) + 1)))]) hx hb dX5_plan_64 hl (by decide) rfl (fun ls hl => ?_)
            refine lv_iconst (v := 0) hx hb dX5_plan_66 (by decide) ?_
            have hs := (h_2 k2_7 (by omega)).1
            refine lv_istore (lv' := [(6, .int 0), (5, .int v_17), (0, .ref tA), (1, .int a1), (2, .int (nI k2_7)), (3, .int (t_doing (3 * k2_7))), (4, .int (t_doing ((3 * k2_7) + 1)))]) hx hb dX5_plan_67 hl (by decide) rfl (fun ls hl => ?_)
            obtain ⟨o_24, E_24, E⟩ := x_nm_ex E
            have J_24 : ∀ (t_when_19 : Int32) (t_most_20 : Int32) (t_mostAt_21 : Int32) (t_hiss_22 : Int32) (t_row_23 : Nat → Int32), o_24 = (t_when_19, t_most_20, t_mostAt_21, t_hiss_22, t_row_23) → ∀ (H : Heap) (locs : List Loc) (ls : Array Slot), va_P g.1 vwCl [(tA, .inr (5, [.int (nI t_length), .ref tA_text, .int (nI t_at), .int (nI t_begin), .int t_told, .ref tA_is, .ref tA_doings, .ref tA_doing, .int t_items, .ref tA_row, .ref tA_isKept, .int t_when_19, .int t_most_20, .int t_mostAt_21, .int t_hiss_22, .ref tA_best, .ref tA_heats, .ref tA_orders, .ref tA_has, .int (nI t_tests), .ref tA_salt, .ref tA_crumbs, .long t_traced, .int t_hasSkin, .int t_hasBend])), (tA_is, .inl (g.2.1 0, 18, .inl t_is)), (tA_doings, .inl (g.2.1 0, 2, .inl t_doings)), (tA_doing, .inl (g.2.1 0, 72, .inl t_doing)), (tA_row, .inl (g.2.1 0, 80, .inl t_row_23))] H → va_D A [(tA, .inr (5, [.int (nI t_length), .ref tA_text, .int (nI t_at), .int (nI t_begin), .int t_told, .ref tA_is, .ref tA_doings, .ref tA_doing, .int t_items, .ref tA_row, .ref tA_isKept, .int t_when_19, .int t_most_20, .int t_mostAt_21, .int t_hiss_22, .ref tA_best, .ref tA_heats, .ref tA_orders, .ref tA_has, .int (nI t_tests), .ref tA_salt, .ref tA_crumbs, .long t_traced, .int t_hasSkin, .int t_hasBend])), (tA_is, .inl (g.2.1 0, 18, .inl t_is)), (tA_doings, .inl (g.2.1 0, 2, .inl t_doings)), (tA_doing, .inl (g.2.1 0, 72, .inl t_doing)), (tA_row, .inl (g.2.1 0, 80, .inl t_row_23))] → va_S A s.heap H locs → lv_has ls 7 [(0, .ref tA), (1, .int a1), (2, .int (nI k2_7)), (3, .int (t_doing (3 * k2_7))), (4, .int (t_doing ((3 * k2_7) + 1)))] → W p l e rX5_plan s m args below meth c H locs 0 0 Q (F0 m 106 ls []) := by
              intro t_when_19 t_most_20 t_mostAt_21 t_hiss_22 t_row_23 hE  H locs ls hP hD hS hl
              try rw [hE] at E
              refine lv_iload_n hx hb dX5_plan_106 rfl (lv_at hl 3 rfl) ?_
              refine lv_iconst (v := 1) hx hb dX5_plan_107 (by decide) ?_
              obtain ⟨o_26, E_26, E⟩ := x_nm_ex E
              have J_26 : ∀ (t_row_25 : Nat → Int32), o_26 = t_row_25 → ∀ (H : Heap) (locs : List Loc) (ls : Array Slot), va_P g.1 vwCl [(tA, .inr (5, [.int (nI t_length), .ref tA_text, .int (nI t_at), .int (nI t_begin), .int t_told, .ref tA_is, .ref tA_doings, .ref tA_doing, .int t_items, .ref tA_row, .ref tA_isKept, .int t_when_19, .int t_most_20, .int t_mostAt_21, .int t_hiss_22, .ref tA_best, .ref tA_heats, .ref tA_orders, .ref tA_has, .int (nI t_tests), .ref tA_salt, .ref tA_crumbs, .long t_traced, .int t_hasSkin, .int t_hasBend])), (tA_is, .inl (g.2.1 0, 18, .inl t_is)), (tA_doings, .inl (g.2.1 0, 2, .inl t_doings)), (tA_doing, .inl (g.2.1 0, 72, .inl t_doing)), (tA_row, .inl (g.2.1 0, 80, .inl t_row_25))] H → va_D A [(tA, .inr (5, [.int (nI t_length), .ref tA_text, .int (nI t_at), .int (nI t_begin), .int t_told, .ref tA_is, .ref tA_doings, .ref tA_doing, .int t_items, .ref tA_row, .ref tA_isKept, .int t_when_19, .int t_most_20, .int t_mostAt_21, .int t_hiss_22, .ref tA_best, .ref tA_heats, .ref tA_orders, .ref tA_has, .int (nI t_tests), .ref tA_salt, .ref tA_crumbs, .long t_traced, .int t_hasSkin, .int t_hasBend])), (tA_is, .inl (g.2.1 0, 18, .inl t_is)), (tA_doings, .inl (g.2.1 0, 2, .inl t_doings)), (tA_doing, .inl (g.2.1 0, 72, .inl t_doing)), (tA_row, .inl (g.2.1 0, 80, .inl t_row_25))] → va_S A s.heap H locs → lv_has ls 7 [(0, .ref tA), (1, .int a1), (2, .int (nI k2_7)), (3, .int (t_doing (3 * k2_7))), (4, .int (t_doing ((3 * k2_7) + 1)))] → W p l e rX5_plan s m args below meth c H locs 0 0 Q (F0 m 118 ls []) := by
                intro t_row_25 hE  H locs ls hP hD hS hl
                try rw [hE] at E
                refine lv_iload_n hx hb dX5_plan_118 rfl (lv_at hl 3 rfl) ?_
                refine lv_iconst (v := 2) hx hb dX5_plan_119 (by decide) ?_
                obtain ⟨o_28, E_28, E⟩ := x_nm_ex E
                have J_28 : ∀ (t_row_27 : Nat → Int32), o_28 = t_row_27 → ∀ (H : Heap) (locs : List Loc) (ls : Array Slot), va_P g.1 vwCl [(tA, .inr (5, [.int (nI t_length), .ref tA_text, .int (nI t_at), .int (nI t_begin), .int t_told, .ref tA_is, .ref tA_doings, .ref tA_doing, .int t_items, .ref tA_row, .ref tA_isKept, .int t_when_19, .int t_most_20, .int t_mostAt_21, .int t_hiss_22, .ref tA_best, .ref tA_heats, .ref tA_orders, .ref tA_has, .int (nI t_tests), .ref tA_salt, .ref tA_crumbs, .long t_traced, .int t_hasSkin, .int t_hasBend])), (tA_is, .inl (g.2.1 0, 18, .inl t_is)), (tA_doings, .inl (g.2.1 0, 2, .inl t_doings)), (tA_doing, .inl (g.2.1 0, 72, .inl t_doing)), (tA_row, .inl (g.2.1 0, 80, .inl t_row_27))] H → va_D A [(tA, .inr (5, [.int (nI t_length), .ref tA_text, .int (nI t_at), .int (nI t_begin), .int t_told, .ref tA_is, .ref tA_doings, .ref tA_doing, .int t_items, .ref tA_row, .ref tA_isKept, .int t_when_19, .int t_most_20, .int t_mostAt_21, .int t_hiss_22, .ref tA_best, .ref tA_heats, .ref tA_orders, .ref tA_has, .int (nI t_tests), .ref tA_salt, .ref tA_crumbs, .long t_traced, .int t_hasSkin, .int t_hasBend])), (tA_is, .inl (g.2.1 0, 18, .inl t_is)), (tA_doings, .inl (g.2.1 0, 2, .inl t_doings)), (tA_doing, .inl (g.2.1 0, 72, .inl t_doing)), (tA_row, .inl (g.2.1 0, 80, .inl t_row_27))] → va_S A s.heap H locs → lv_has ls 7 [(0, .ref tA), (1, .int a1), (2, .int (nI k2_7))] → W p l e rX5_plan s m args below meth c H locs 0 0 Q (F0 m 130 ls []) := by
                  intro t_row_27 hE  H locs ls hP hD hS hl
                  try rw [hE] at E
                  refine lv_iinc (v := nI (k2_7 + 1)) (lv' := [(2, .int (nI (k2_7 + 1))), (0, .ref tA), (1, .int a1)]) hx hb dX5_plan_130 hl (k := 2) rfl (nI_1 k2_7) (by decide) rfl (fun ls hl => ?_)
                  refine lv_goto (tgt := 2) hx hb dX5_plan_133 (by decide) ?_
                  exact ih_13 (k2_7 + 1) t_when_19 t_most_20 t_mostAt_21 t_hiss_22 t_row_27 (by first | omega | assumption | exact Eq.trans (by assumption) (by assumption)) (by omega) E H locs ls hP hD hS (lv_sub hl [1, 2, 0] rfl)
                have E := E_28
                refine x_icmp_neI (tgt := 130) hx hb dX5_plan_120 (by decide) (fun c_29 => ?_) (fun c_29 => ?_)
                · have E := x_neg E c_29
                  exact J_28 t_row_25 E  H locs ls hP hD hS (lv_sub hl [0, 1, 2] rfl)
                · have E := x_pos E c_29
                  refine lv_aload_n hx hb dX5_plan_123 rfl (lv_at hl 0 rfl) ?_
                  refine lv_iconst (v := 3) hx hb dX5_plan_124 (by decide) ?_
                  refine lv_iload hx hb dX5_plan_125 (lv_at hl 4 rfl) ?_
                  refine x_callVv (w2 := fun u => [(tA, .inr (5, [.int (nI t_length), .ref tA_text, .int (nI t_at), .int (nI t_begin), .int t_told, .ref tA_is, .ref tA_doings, .ref tA_doing, .int t_items, .ref tA_row, .ref tA_isKept, .int t_when_19, .int t_most_20, .int t_mostAt_21, .int t_hiss_22, .ref tA_best, .ref tA_heats, .ref tA_orders, .ref tA_has, .int (nI t_tests), .ref tA_salt, .ref tA_crumbs, .long t_traced, .int t_hasSkin, .int t_hasBend])), (tA_is, .inl (g.2.1 0, 18, .inl t_is)), (tA_doings, .inl (g.2.1 0, 2, .inl t_doings)), (tA_doing, .inl (g.2.1 0, 72, .inl t_doing)), (tA_row, .inl (g.2.1 0, 80, .inl u))]) (wr := [(tA_is, .inl (g.2.1 0, 18, .inl t_is)), (tA_doings, .inl (g.2.1 0, 2, .inl t_doings)), (tA_doing, .inl (g.2.1 0, 72, .inl t_doing))]) [0, 4] [1, 2, 3] [3, 0, 1, 2, 4] 0 5 ⟨hx, hb, hml, hown, hts⟩ hK hX hP hD hS hA (m_X5_pricked l g tA tA_row tA_text tA_is tA_doings tA_doing tA_isKept tA_best tA_heats tA_orders tA_has tA_salt tA_crumbs t_length t_at t_begin t_told t_items t_when_19 t_most_20 t_mostAt_21 t_hiss_22 t_tests t_traced t_hasSkin t_hasBend t_row_25 3 (t_doing ((3 * k2_7) + 1)) (by first | assumption | omega | exact x_e8 (by assumption) (by assumption))) (cwV 2 hts (x_gV kw_502 kw_503 kw_504 kw_5 kw_505) rfl rfl rfl vX5_pricked ⟨Nat.le_of_ble_eq_true rfl, Nat.le_of_ble_eq_true rfl⟩) rfl rfl rfl rfl rfl rfl rfl (by decide) (fun _ => rfl) rfl rfl hl.1 rfl (Nat.le_of_ble_eq_true rfl) dX5_plan_127 ⟨Nat.zero_le _, Nat.zero_le _⟩ (fun t_row_30 H locs hw_31 hP hD hS => ?_)
                  have hP : va_P g.1 vwCl [(tA, .inr (5, [.int (nI t_length), .ref tA_text, .int (nI t_at), .int (nI t_begin), .int t_told, .ref tA_is, .ref tA_doings, .ref tA_doing, .int t_items, .ref tA_row, .ref tA_isKept, .int t_when_19, .int t_most_20, .int t_mostAt_21, .int t_hiss_22, .ref tA_best, .ref tA_heats, .ref tA_orders, .ref tA_has, .int (nI t_tests), .ref tA_salt, .ref tA_crumbs, .long t_traced, .int t_hasSkin, .int t_hasBend])), (tA_is, .inl (g.2.1 0, 18, .inl t_is)), (tA_doings, .inl (g.2.1 0, 2, .inl t_doings)), (tA_doing, .inl (g.2.1 0, 72, .inl t_doing)), (tA_row, .inl (g.2.1 0, 80, .inl t_row_30))] H := hP
                  have hD : va_D A [(tA, .inr (5, [.int (nI t_length), .ref tA_text, .int (nI t_at), .int (nI t_begin), .int t_told, .ref tA_is, .ref tA_doings, .ref tA_doing, .int t_items, .ref tA_row, .ref tA_isKept, .int t_when_19, .int t_most_20, .int t_mostAt_21, .int t_hiss_22, .ref tA_best, .ref tA_heats, .ref tA_orders, .ref tA_has, .int (nI t_tests), .ref tA_salt, .ref tA_crumbs, .long t_traced, .int t_hasSkin, .int t_hasBend])), (tA_is, .inl (g.2.1 0, 18, .inl t_is)), (tA_doings, .inl (g.2.1 0, 2, .inl t_doings)), (tA_doing, .inl (g.2.1 0, 72, .inl t_doing)), (tA_row, .inl (g.2.1 0, 80, .inl t_row_30))] := hD
                  have E := x_nm_eq E hw_31
                  exact J_28 t_row_30 E  H locs ls hP hD hS (lv_sub hl [0, 1, 2] rfl)
              have E := E_26
              refine x_icmp_neI (tgt := 118) hx hb dX5_plan_108 (by decide) (fun c_33 => ?_) (fun c_33 => ?_)
              · have E := x_neg E c_33
                exact J_26 t_row_23 E  H locs ls hP hD hS (lv_sub hl [0, 1, 2, 3, 4] rfl)
              · have E := x_pos E c_33
                refine lv_aload_n hx hb dX5_plan_111 rfl (lv_at hl 0 rfl) ?_
                refine lv_iconst (v := 3) hx hb dX5_plan_112 (by decide) ?_
                refine lv_iload hx hb dX5_plan_113 (lv_at hl 4 rfl) ?_
                refine x_callVv (w2 := fun u => [(tA, .inr (5, [.int (nI t_length), .ref tA_text, .int (nI t_at), .int (nI t_begin), .int t_told, .ref tA_is, .ref tA_doings, .ref tA_doing, .int t_items, .ref tA_row, .ref tA_isKept, .int t_when_19, .int t_most_20, .int t_mostAt_21, .int t_hiss_22, .ref tA_best, .ref tA_heats, .ref tA_orders, .ref tA_has, .int (nI t_tests), .ref tA_salt, .ref tA_crumbs, .long t_traced, .int t_hasSkin, .int t_hasBend])), (tA_is, .inl (g.2.1 0, 18, .inl t_is)), (tA_doings, .inl (g.2.1 0, 2, .inl t_doings)), (tA_doing, .inl (g.2.1 0, 72, .inl t_doing)), (tA_row, .inl (g.2.1 0, 80, .inl u))]) (wr := [(tA_is, .inl (g.2.1 0, 18, .inl t_is)), (tA_doings, .inl (g.2.1 0, 2, .inl t_doings)), (tA_doing, .inl (g.2.1 0, 72, .inl t_doing))]) [0, 4] [1, 2, 3] [3, 0, 1, 2, 4] 0 5 ⟨hx, hb, hml, hown, hts⟩ hK hX hP hD hS hA (m_X5_turns l g tA tA_row tA_text tA_is tA_doings tA_doing tA_isKept tA_best tA_heats tA_orders tA_has tA_salt tA_crumbs t_length t_at t_begin t_told t_items t_when_19 t_most_20 t_mostAt_21 t_hiss_22 t_tests t_traced t_hasSkin t_hasBend t_row_23 3 (t_doing ((3 * k2_7) + 1)) (by first | assumption | omega | exact x_e8 (by assumption) (by assumption))) (cwV 2 hts (x_gV kw_484 kw_485 kw_486 kw_5 kw_487) rfl rfl rfl vX5_turns ⟨Nat.le_of_ble_eq_true rfl, Nat.le_of_ble_eq_true rfl⟩) rfl rfl rfl rfl rfl rfl rfl (by decide) (fun _ => rfl) rfl rfl hl.1 rfl (Nat.le_of_ble_eq_true rfl) dX5_plan_115 ⟨Nat.zero_le _, Nat.zero_le _⟩ (fun t_row_34 H locs hw_35 hP hD hS => ?_)
                have hP : va_P g.1 vwCl [(tA, .inr (5, [.int (nI t_length), .ref tA_text, .int (nI t_at), .int (nI t_begin), .int t_told, .ref tA_is, .ref tA_doings, .ref tA_doing, .int t_items, .ref tA_row, .ref tA_isKept, .int t_when_19, .int t_most_20, .int t_mostAt_21, .int t_hiss_22, .ref tA_best, .ref tA_heats, .ref tA_orders, .ref tA_has, .int (nI t_tests), .ref tA_salt, .ref tA_crumbs, .long t_traced, .int t_hasSkin, .int t_hasBend])), (tA_is, .inl (g.2.1 0, 18, .inl t_is)), (tA_doings, .inl (g.2.1 0, 2, .inl t_doings)), (tA_doing, .inl (g.2.1 0, 72, .inl t_doing)), (tA_row, .inl (g.2.1 0, 80, .inl t_row_34))] H := hP
                have hD : va_D A [(tA, .inr (5, [.int (nI t_length), .ref tA_text, .int (nI t_at), .int (nI t_begin), .int t_told, .ref tA_is, .ref tA_doings, .ref tA_doing, .int t_items, .ref tA_row, .ref tA_isKept, .int t_when_19, .int t_most_20, .int t_mostAt_21, .int t_hiss_22, .ref tA_best, .ref tA_heats, .ref tA_orders, .ref tA_has, .int (nI t_tests), .ref tA_salt, .ref tA_crumbs, .long t_traced, .int t_hasSkin, .int t_hasBend])), (tA_is, .inl (g.2.1 0, 18, .inl t_is)), (tA_doings, .inl (g.2.1 0, 2, .inl t_doings)), (tA_doing, .inl (g.2.1 0, 72, .inl t_doing)), (tA_row, .inl (g.2.1 0, 80, .inl t_row_34))] := hD
                have E := x_nm_eq E hw_35
                exact J_26 t_row_34 E  H locs ls hP hD hS (lv_sub hl [0, 1, 2, 3, 4] rfl)
            have E := E_24
            have L_43 : ∀ (n_43 : Nat) (k6_37 : Nat) (t_when_38 : Int32) (t_most_39 : Int32) (t_mostAt_40 : Int32) (t_hiss_41 : Int32) (t_row_42 : Nat → Int32), (k6_37 ≤ (t_doing (3 * k2_7 + 2)).toNatClampNeg) → (((t_doing (3 * k2_7 + 2)).toNatClampNeg - k6_37) < n_43) → o_24 = F_X5_plan_L69 t_is t_doing k2_7 v_17 n_43 k6_37 t_when_38 t_most_39 t_mostAt_40 t_hiss_41 t_row_42 → ∀ (H : Heap) (locs : List Loc) (ls : Array Slot), va_P g.1 vwCl [(tA, .inr (5, [.int (nI t_length), .ref tA_text, .int (nI t_at), .int (nI t_begin), .int t_told, .ref tA_is, .ref tA_doings, .ref tA_doing, .int t_items, .ref tA_row, .ref tA_isKept, .int t_when_38, .int t_most_39, .int t_mostAt_40, .int t_hiss_41, .ref tA_best, .ref tA_heats, .ref tA_orders, .ref tA_has, .int (nI t_tests), .ref tA_salt, .ref tA_crumbs, .long t_traced, .int t_hasSkin, .int t_hasBend])), (tA_is, .inl (g.2.1 0, 18, .inl t_is)), (tA_doings, .inl (g.2.1 0, 2, .inl t_doings)), (tA_doing, .inl (g.2.1 0, 72, .inl t_doing)), (tA_row, .inl (g.2.1 0, 80, .inl t_row_42))] H → va_D A [(tA, .inr (5, [.int (nI t_length), .ref tA_text, .int (nI t_at), .int (nI t_begin), .int t_told, .ref tA_is, .ref tA_doings, .ref tA_doing, .int t_items, .ref tA_row, .ref tA_isKept, .int t_when_38, .int t_most_39, .int t_mostAt_40, .int t_hiss_41, .ref tA_best, .ref tA_heats, .ref tA_orders, .ref tA_has, .int (nI t_tests), .ref tA_salt, .ref tA_crumbs, .long t_traced, .int t_hasSkin, .int t_hasBend])), (tA_is, .inl (g.2.1 0, 18, .inl t_is)), (tA_doings, .inl (g.2.1 0, 2, .inl t_doings)), (tA_doing, .inl (g.2.1 0, 72, .inl t_doing)), (tA_row, .inl (g.2.1 0, 80, .inl t_row_42))] → va_S A s.heap H locs → lv_has ls 7 [(0, .ref tA), (1, .int a1), (2, .int (nI k2_7)), (3, .int (t_doing (3 * k2_7))), (4, .int (t_doing ((3 * k2_7) + 1))), (5, .int v_17), (6, .int (nI k6_37))] → W p l e rX5_plan s m args below meth c H locs 0 0 Q (F0 m 69 ls []) := by
              intro n_43
              induction n_43 with
              | zero => intro k6_37 t_when_38 t_most_39 t_mostAt_40 t_hiss_41 t_row_42 i_43_0 i_43_1; exact absurd i_43_1 (by omega)
              | succ n_43 ih_43 =>
                intro k6_37 t_when_38 t_most_39 t_mostAt_40 t_hiss_41 t_row_42 i_43_0 i_43_1 E H locs ls hP hD hS hl
                rw [F_X5_plan_L69.eq_2] at E
                refine lv_iload hx hb dX5_plan_69 (lv_at hl 6 rfl) ?_
                refine lv_aload_n hx hb dX5_plan_71 rfl (lv_at hl 0 rfl) ?_
                refine va_get (ci := 5) (v := .ref tA_doing) (C := RX5) (T := TX5) (N := 25) hx hb hts inlX5 hown hK.1 hP 0 rfl rfl 7 (by decide) (hts _ kw_96) (fun _ h9 => h9) rfl dX5_plan_72 ?_
                refine lv_iconst (v := 3) hx hb dX5_plan_75 (by decide) ?_
                refine lv_iload_n hx hb dX5_plan_76 rfl (lv_at hl 2 rfl) ?_
                refine lv_imul hx hb dX5_plan_77 ?_
                refine x_eqi (pk_mul 3 k2_7) ?_
                refine lv_iconst (v := 2) hx hb dX5_plan_78 (by decide) ?_
                refine lv_iadd hx hb dX5_plan_79 ?_
                refine x_eqi (nI_add (3 * k2_7) 2) ?_
                refine x_ialdN hx hb hK hP 3 ((3 * k2_7) + 2) rfl (by omega) (by decide) dX5_plan_80 ?_
                refine x_eqi ((h_2 k2_7 (by omega)).2) ?_
                refine x_icmp_ge (a := k6_37) (b := ((t_doing (3 * k2_7 + 2)).toNatClampNeg)) (tgt := 106) hx hb (by omega) (by omega) dX5_plan_81 (by decide) (fun c_44 => ?_) (fun c_44 => ?_)
                · have E := x_pos E c_44
                  exact J_24 t_when_38 t_most_39 t_mostAt_40 t_hiss_41 t_row_42 E  H locs ls hP hD hS (lv_sub hl [0, 1, 2, 3, 4] rfl)
                · have E := x_neg E c_44
                  refine lv_aload_n hx hb dX5_plan_84 rfl (lv_at hl 0 rfl) ?_
                  refine lv_iload hx hb dX5_plan_85 (lv_at hl 5 rfl) ?_
                  refine lv_iload_n hx hb dX5_plan_87 rfl (lv_at hl 3 rfl) ?_
                  refine lv_iconst (v := 3) hx hb dX5_plan_88 (by decide) ?_
                  obtain ⟨o_46, E_46, E⟩ := x_nm_ex E
                  have J_46 : ∀ (v_45 : Int32), o_46 = v_45 → ∀ (H : Heap) (locs : List Loc) (ls : Array Slot), va_P g.1 vwCl [(tA, .inr (5, [.int (nI t_length), .ref tA_text, .int (nI t_at), .int (nI t_begin), .int t_told, .ref tA_is, .ref tA_doings, .ref tA_doing, .int t_items, .ref tA_row, .ref tA_isKept, .int t_when_38, .int t_most_39, .int t_mostAt_40, .int t_hiss_41, .ref tA_best, .ref tA_heats, .ref tA_orders, .ref tA_has, .int (nI t_tests), .ref tA_salt, .ref tA_crumbs, .long t_traced, .int t_hasSkin, .int t_hasBend])), (tA_is, .inl (g.2.1 0, 18, .inl t_is)), (tA_doings, .inl (g.2.1 0, 2, .inl t_doings)), (tA_doing, .inl (g.2.1 0, 72, .inl t_doing)), (tA_row, .inl (g.2.1 0, 80, .inl t_row_42))] H → va_D A [(tA, .inr (5, [.int (nI t_length), .ref tA_text, .int (nI t_at), .int (nI t_begin), .int t_told, .ref tA_is, .ref tA_doings, .ref tA_doing, .int t_items, .ref tA_row, .ref tA_isKept, .int t_when_38, .int t_most_39, .int t_mostAt_40, .int t_hiss_41, .ref tA_best, .ref tA_heats, .ref tA_orders, .ref tA_has, .int (nI t_tests), .ref tA_salt, .ref tA_crumbs, .long t_traced, .int t_hasSkin, .int t_hasBend])), (tA_is, .inl (g.2.1 0, 18, .inl t_is)), (tA_doings, .inl (g.2.1 0, 2, .inl t_doings)), (tA_doing, .inl (g.2.1 0, 72, .inl t_doing)), (tA_row, .inl (g.2.1 0, 80, .inl t_row_42))] → va_S A s.heap H locs → lv_has ls 7 [(0, .ref tA), (1, .int a1), (2, .int (nI k2_7)), (3, .int (t_doing (3 * k2_7))), (4, .int (t_doing ((3 * k2_7) + 1))), (5, .int v_17), (6, .int (nI k6_37))] → W p l e rX5_plan s m args below meth c H locs 0 0 Q (F0 m 97 ls [.int v_45, .int v_17, .ref tA]) := by
                    intro v_45 hE  H locs ls hP hD hS hl
                    try rw [hE] at E
                    refine x_callVv (w2 := fun u => [(tA, .inr (5, [.int (nI t_length), .ref tA_text, .int (nI t_at), .int (nI t_begin), .int t_told, .ref tA_is, .ref tA_doings, .ref tA_doing, .int t_items, .ref tA_row, .ref tA_isKept, .int u.1, .int u.2.1, .int u.2.2.1, .int u.2.2.2.1, .ref tA_best, .ref tA_heats, .ref tA_orders, .ref tA_has, .int (nI t_tests), .ref tA_salt, .ref tA_crumbs, .long t_traced, .int t_hasSkin, .int t_hasBend])), (tA_is, .inl (g.2.1 0, 18, .inl t_is)), (tA_doings, .inl (g.2.1 0, 2, .inl t_doings)), (tA_doing, .inl (g.2.1 0, 72, .inl t_doing)), (tA_row, .inl (g.2.1 0, 80, .inl u.2.2.2.2))]) (wr := [(tA_doings, .inl (g.2.1 0, 2, .inl t_doings)), (tA_doing, .inl (g.2.1 0, 72, .inl t_doing))]) [0, 1, 4] [2, 3] [2, 3, 0, 1, 4] 0 5 ⟨hx, hb, hml, hown, hts⟩ hK hX hP hD hS hA (m_X5_tried l g tA tA_is tA_row tA_text tA_doings tA_doing tA_isKept tA_best tA_heats tA_orders tA_has tA_salt tA_crumbs t_length t_at t_begin t_told t_items t_when_38 t_most_39 t_mostAt_40 t_hiss_41 t_tests t_traced t_hasSkin t_hasBend t_is t_row_42 v_17 v_45 (by first | assumption | omega | exact x_e8 (by assumption) (by assumption))) (cwV 2 hts (x_gV kw_616 kw_617 kw_618 kw_5 kw_619) rfl rfl rfl vX5_tried ⟨Nat.le_of_ble_eq_true rfl, Nat.le_of_ble_eq_true rfl⟩) rfl rfl rfl rfl rfl rfl rfl (by decide) (fun _ => rfl) rfl rfl hl.1 rfl (Nat.le_of_ble_eq_true rfl) dX5_plan_97 ⟨Nat.zero_le _, Nat.zero_le _⟩ (fun u H locs hw_52 hP hD hS => ?_)
                    obtain ⟨t_when_47, t_most_48, t_mostAt_49, t_hiss_50, t_row_51⟩ := u
                    have hP : va_P g.1 vwCl [(tA, .inr (5, [.int (nI t_length), .ref tA_text, .int (nI t_at), .int (nI t_begin), .int t_told, .ref tA_is, .ref tA_doings, .ref tA_doing, .int t_items, .ref tA_row, .ref tA_isKept, .int t_when_47, .int t_most_48, .int t_mostAt_49, .int t_hiss_50, .ref tA_best, .ref tA_heats, .ref tA_orders, .ref tA_has, .int (nI t_tests), .ref tA_salt, .ref tA_crumbs, .long t_traced, .int t_hasSkin, .int t_hasBend])), (tA_is, .inl (g.2.1 0, 18, .inl t_is)), (tA_doings, .inl (g.2.1 0, 2, .inl t_doings)), (tA_doing, .inl (g.2.1 0, 72, .inl t_doing)), (tA_row, .inl (g.2.1 0, 80, .inl t_row_51))] H := hP
                    have hD : va_D A [(tA, .inr (5, [.int (nI t_length), .ref tA_text, .int (nI t_at), .int (nI t_begin), .int t_told, .ref tA_is, .ref tA_doings, .ref tA_doing, .int t_items, .ref tA_row, .ref tA_isKept, .int t_when_47, .int t_most_48, .int t_mostAt_49, .int t_hiss_50, .ref tA_best, .ref tA_heats, .ref tA_orders, .ref tA_has, .int (nI t_tests), .ref tA_salt, .ref tA_crumbs, .long t_traced, .int t_hasSkin, .int t_hasBend])), (tA_is, .inl (g.2.1 0, 18, .inl t_is)), (tA_doings, .inl (g.2.1 0, 2, .inl t_doings)), (tA_doing, .inl (g.2.1 0, 72, .inl t_doing)), (tA_row, .inl (g.2.1 0, 80, .inl t_row_51))] := hD
                    have E := x_nm_eq E hw_52
                    refine lv_iinc (v := nI (k6_37 + 1)) (lv' := [(6, .int (nI (k6_37 + 1))), (0, .ref tA), (1, .int a1), (2, .int (nI k2_7)), (3, .int (t_doing (3 * k2_7))), (4, .int (t_doing ((3 * k2_7) + 1))), (5, .int v_17)]) hx hb dX5_plan_100 hl (k := 6) rfl (nI_1 k6_37) (by decide) rfl (fun ls hl => ?_)
                    refine lv_goto (tgt := 69) hx hb dX5_plan_103 (by decide) ?_
                    exact ih_43 (k6_37 + 1) t_when_47 t_most_48 t_mostAt_49 t_hiss_50 t_row_51 (by first | omega | assumption | exact Eq.trans (by assumption) (by assumption)) (by omega) E H locs ls hP hD hS (lv_sub hl [1, 2, 3, 4, 5, 6, 0] rfl)
                  have E := E_46
                  refine x_icmp_neI (tgt := 96) hx hb dX5_plan_89 (by decide) (fun c_54 => ?_) (fun c_54 => ?_)
                  · have E := x_neg E c_54
                    refine lv_iconst (v := 0) hx hb dX5_plan_96 (by decide) ?_
                    exact J_46 0 E  H locs ls hP hD hS (lv_sub hl [0, 1, 2, 3, 4, 5, 6] rfl)
                  · have E := x_pos E c_54
                    refine lv_iconst (v := 1) hx hb dX5_plan_92 (by decide) ?_
                    refine lv_goto (tgt := 97) hx hb dX5_plan_93 (by decide) ?_
                    exact J_46 1 E  H locs ls hP hD hS (lv_sub hl [0, 1, 2, 3, 4, 5, 6] rfl)
            exact L_43 ((t_doing (3 * k2_7 + 2)).toNatClampNeg + 1) 0 t_when_8 t_most_9 t_mostAt_10 t_hiss_11 t_row_12 (by first | omega | assumption | rfl) (by omega) E H locs ls hP hD hS (lv_sub hl [2, 3, 4, 5, 6, 1, 0] rfl)
          have E := E_18
          refine lv_icmp_le (tgt := 62) hx hb dX5_plan_53 (by decide) (fun c_55 => ?_) (fun c_55 => ?_)
          · have E := x_pos E c_55
            refine lv_iload hx hb dX5_plan_62 (lv_at hl 0 rfl) ?_
            exact J_18 v_15 E  H locs ls hP hD hS (lv_sub hl [1, 2, 3, 4, 5] rfl)
          · have E := x_neg E c_55
            refine lv_sipush (v := 300) hx hb dX5_plan_56 (by decide) ?_
            refine lv_goto (tgt := 64) hx hb dX5_plan_59 (by decide) ?_
            exact J_18 300 E  H locs ls hP hD hS (lv_sub hl [1, 2, 3, 4, 5] rfl)
        have E := E_16
        refine x_if_neI (tgt := 44) hx hb dX5_plan_34 (by decide) (fun c_56 => ?_) (fun c_56 => ?_)
        · have E := x_neg E c_56
          refine lv_iload hx hb dX5_plan_44 (lv_at hl 0 rfl) ?_
          exact J_16 (t_doing ((3 * k2_7) + 1)) E  H locs ls hP hD hS (lv_sub hl [2, 3, 4, 1, 0] rfl)
        · have E := x_pos E c_56
          refine lv_iload hx hb dX5_plan_37 (lv_at hl 0 rfl) ?_
          refine lv_iload_n hx hb dX5_plan_39 rfl (lv_at hl 3 rfl) ?_
          refine lv_iadd hx hb dX5_plan_40 ?_
          refine lv_goto (tgt := 46) hx hb dX5_plan_41 (by decide) ?_
          exact J_16 ((t_doing ((3 * k2_7) + 1)) + a1) E  H locs ls hP hD hS (lv_sub hl [2, 3, 4, 1, 0] rfl)
  exact L_13 ((t_doings 0).toNatClampNeg + 1) 0 t_when t_most t_mostAt t_hiss t_row (by first | omega | assumption | rfl) (by omega) E H locs ls hP hD hS (lv_sub hl [1, 2, 0] rfl)
abbrev rX5_brown : Room := { frames := 0, cells := 0, slots := 0, locals := 0 }
theorem vX5_brown : yX5_brown.cls = RX5 ∧ yX5_brown.cls ≠ "java/lang/invoke/MethodHandle" ∧ yX5_brown.cls ≠ "java/lang/invoke/VarHandle" ∧ (parseMethodDescriptor yX5_brown.desc).map (fun d => d.parameters.length) = some 1 := by decide +kernel
abbrev wX5_brown : List Cond := Cond.code yX5_brown cX5_brown 5 (some .int) :: wsL_law
def F_X5_brown_L10 (t_row : Nat → Int32) (a1 : Int32) : Nat → Int32 → Nat → Int32
  | 0, l2_3, k3_4 => l2_3
  | n_5 + 1, l2_3, k3_4 => if 4 ≤ k3_4 then l2_3 else x_nm (α := Int32) (if (t_row (65 + k3_4)) ≤ l2_3 then 0 else 1) fun u_8 => x_nm (α := Int32) (if u_8 = a1 then if (t_row (65 + k3_4)) = l2_3 then l2_3 else t_row (65 + k3_4) else l2_3) fun u_10 => F_X5_brown_L10 t_row a1 n_5 u_10 (k3_4 + 1)
def F_X5_brown (t_row : Nat → Int32) (a1 : Int32) : Int32 :=
  x_nm (α := Int32) (F_X5_brown_L10 t_row a1 (4 + 1) (t_row 65) 1) fun u_2 => u_2
set_option maxHeartbeats 4000000 in
set_option maxRecDepth 100000 in
theorem m_X5_brown (l : Launch) (g : x_G) (tA tA_row tA_text tA_is tA_doings tA_doing tA_isKept tA_best tA_heats tA_orders tA_has tA_salt tA_crumbs : Nat) (t_length : Nat) (t_at : Nat) (t_begin : Nat) (t_told : Int32) (t_items : Int32) (t_when : Int32) (t_most : Int32) (t_mostAt : Int32) (t_hiss : Int32) (t_tests : Nat) (t_traced : Int64) (t_hasSkin : Int32) (t_hasBend : Int32) (t_row : Nat → Int32) (a1 : Int32) : x_MetI l yX5_brown wX5_brown rX5_brown g [.ref tA, .int a1] [(tA, .inr (5, [.int (nI t_length), .ref tA_text, .int (nI t_at), .int (nI t_begin), .int t_told, .ref tA_is, .ref tA_doings, .ref tA_doing, .int t_items, .ref tA_row, .ref tA_isKept, .int t_when, .int t_most, .int t_mostAt, .int t_hiss, .ref tA_best, .ref tA_heats, .ref tA_orders, .ref tA_has, .int (nI t_tests), .ref tA_salt, .ref tA_crumbs, .long t_traced, .int t_hasSkin, .int t_hasBend])), (tA_row, .inl (g.2.1 0, 80, .inl t_row))] (fun (r : Int32) (u : Unit) => r = F_X5_brown t_row a1) (fun _ => [(tA, .inr (5, [.int (nI t_length), .ref tA_text, .int (nI t_at), .int (nI t_begin), .int t_told, .ref tA_is, .ref tA_doings, .ref tA_doing, .int t_items, .ref tA_row, .ref tA_isKept, .int t_when, .int t_most, .int t_mostAt, .int t_hiss, .ref tA_best, .ref tA_heats, .ref tA_orders, .ref tA_has, .int (nI t_tests), .ref tA_salt, .ref tA_crumbs, .long t_traced, .int t_hasSkin, .int t_hasBend])), (tA_row, .inl (g.2.1 0, 80, .inl t_row))]) := by
  refine x_startI (cc := cX5_brown) (maxL := 5) (by decide) rfl (Nat.le_of_ble_eq_true rfl) ?_
  intro p e s m args below meth c Q A ls H locs hx hb hml hown hts hK hX hP hD hS hA hl RET
  have hown : s.vm.findClass RX5 = some m.cls := hown
  have hl : lv_has ls 5 [(0, .ref tA), (1, .int a1)] := hl
  obtain ⟨o_0, hO⟩ : ∃ z, z = F_X5_brown t_row a1 := ⟨_, rfl⟩
  have E := hO
  rw [F_X5_brown.eq_1] at E
  refine lv_aload_n hx hb dX5_brown_0 rfl (lv_at hl 0 rfl) ?_
  refine va_get (ci := 5) (v := .ref tA_row) (C := RX5) (T := TX5) (N := 25) hx hb hts inlX5 hown hK.1 hP 0 rfl rfl 9 (by decide) (hts _ kw_97) (fun _ h9 => h9) rfl dX5_brown_1 ?_
  refine lv_bipush (v := 65) hx hb dX5_brown_4 (by decide) ?_
  refine x_ialdN hx hb hK hP 1 65 rfl (by omega) (by decide) dX5_brown_6 ?_
  refine lv_istore_n (lv' := [(2, .int (t_row 65)), (0, .ref tA), (1, .int a1)]) hx hb dX5_brown_7 rfl hl (by decide) rfl (fun ls hl => ?_)
  refine lv_iconst (v := 1) hx hb dX5_brown_8 (by decide) ?_
  refine lv_istore_n (lv' := [(3, .int 1), (2, .int (t_row 65)), (0, .ref tA), (1, .int a1)]) hx hb dX5_brown_9 rfl hl (by decide) rfl (fun ls hl => ?_)
  obtain ⟨o_2, E_2, E⟩ := x_nm_ex E
  have J_2 : ∀ (l2_1 : Int32), o_2 = l2_1 → ∀ (H : Heap) (locs : List Loc) (ls : Array Slot), va_P g.1 vwCl [(tA, .inr (5, [.int (nI t_length), .ref tA_text, .int (nI t_at), .int (nI t_begin), .int t_told, .ref tA_is, .ref tA_doings, .ref tA_doing, .int t_items, .ref tA_row, .ref tA_isKept, .int t_when, .int t_most, .int t_mostAt, .int t_hiss, .ref tA_best, .ref tA_heats, .ref tA_orders, .ref tA_has, .int (nI t_tests), .ref tA_salt, .ref tA_crumbs, .long t_traced, .int t_hasSkin, .int t_hasBend])), (tA_row, .inl (g.2.1 0, 80, .inl t_row))] H → va_D A [(tA, .inr (5, [.int (nI t_length), .ref tA_text, .int (nI t_at), .int (nI t_begin), .int t_told, .ref tA_is, .ref tA_doings, .ref tA_doing, .int t_items, .ref tA_row, .ref tA_isKept, .int t_when, .int t_most, .int t_mostAt, .int t_hiss, .ref tA_best, .ref tA_heats, .ref tA_orders, .ref tA_has, .int (nI t_tests), .ref tA_salt, .ref tA_crumbs, .long t_traced, .int t_hasSkin, .int t_hasBend])), (tA_row, .inl (g.2.1 0, 80, .inl t_row))] → va_S A s.heap H locs → lv_has ls 5 [(2, .int l2_1)] → W p l e rX5_brown s m args below meth c H locs 0 0 Q (F0 m 60 ls []) := by
    intro l2_1 hE  H locs ls hP hD hS hl
    try rw [hE] at E
    refine lv_iload_n hx hb dX5_brown_60 rfl (lv_at hl 0 rfl) ?_
    exact RET l2_1 () H locs _ _ (E.symm.trans hO) rfl hP hD hS dX5_brown_61
  have E := E_2
  have L_5 : ∀ (n_5 : Nat) (l2_3 : Int32) (k3_4 : Nat), (k3_4 ≤ 4) → ((4 - k3_4) < n_5) → o_2 = F_X5_brown_L10 t_row a1 n_5 l2_3 k3_4 → ∀ (H : Heap) (locs : List Loc) (ls : Array Slot), va_P g.1 vwCl [(tA, .inr (5, [.int (nI t_length), .ref tA_text, .int (nI t_at), .int (nI t_begin), .int t_told, .ref tA_is, .ref tA_doings, .ref tA_doing, .int t_items, .ref tA_row, .ref tA_isKept, .int t_when, .int t_most, .int t_mostAt, .int t_hiss, .ref tA_best, .ref tA_heats, .ref tA_orders, .ref tA_has, .int (nI t_tests), .ref tA_salt, .ref tA_crumbs, .long t_traced, .int t_hasSkin, .int t_hasBend])), (tA_row, .inl (g.2.1 0, 80, .inl t_row))] H → va_D A [(tA, .inr (5, [.int (nI t_length), .ref tA_text, .int (nI t_at), .int (nI t_begin), .int t_told, .ref tA_is, .ref tA_doings, .ref tA_doing, .int t_items, .ref tA_row, .ref tA_isKept, .int t_when, .int t_most, .int t_mostAt, .int t_hiss, .ref tA_best, .ref tA_heats, .ref tA_orders, .ref tA_has, .int (nI t_tests), .ref tA_salt, .ref tA_crumbs, .long t_traced, .int t_hasSkin, .int t_hasBend])), (tA_row, .inl (g.2.1 0, 80, .inl t_row))] → va_S A s.heap H locs → lv_has ls 5 [(0, .ref tA), (1, .int a1), (2, .int l2_3), (3, .int (nI k3_4))] → W p l e rX5_brown s m args below meth c H locs 0 0 Q (F0 m 10 ls []) := by
    intro n_5
    induction n_5 with
    | zero => intro l2_3 k3_4 i_5_0 i_5_1; exact absurd i_5_1 (by omega)
    | succ n_5 ih_5 =>
      intro l2_3 k3_4 i_5_0 i_5_1 E H locs ls hP hD hS hl
      rw [F_X5_brown_L10.eq_2] at E
      refine lv_iload_n hx hb dX5_brown_10 rfl (lv_at hl 3 rfl) ?_
      refine lv_iconst (v := 4) hx hb dX5_brown_11 (by decide) ?_
      refine x_icmp_ge (a := k3_4) (b := 4) (tgt := 60) hx hb (by omega) (by omega) dX5_brown_12 (by decide) (fun c_6 => ?_) (fun c_6 => ?_)
      · have E := x_pos E c_6
        exact J_2 l2_3 E  H locs ls hP hD hS (lv_sub hl [2] rfl)
      · have E := x_neg E c_6
        refine lv_aload_n hx hb dX5_brown_15 rfl (lv_at hl 0 rfl) ?_
        refine va_get (ci := 5) (v := .ref tA_row) (C := RX5) (T := TX5) (N := 25) hx hb hts inlX5 hown hK.1 hP 0 rfl rfl 9 (by decide) (hts _ kw_97) (fun _ h9 => h9) rfl dX5_brown_16 ?_
        refine lv_bipush (v := 65) hx hb dX5_brown_19 (by decide) ?_
        refine lv_iload_n hx hb dX5_brown_21 rfl (lv_at hl 3 rfl) ?_
        refine lv_iadd hx hb dX5_brown_22 ?_
        refine x_eqi (nI_add 65 k3_4) ?_
        refine x_ialdN hx hb hK hP 1 (65 + k3_4) rfl (by omega) (by decide) dX5_brown_23 ?_
        refine lv_istore (lv' := [(4, .int (t_row (65 + k3_4))), (0, .ref tA), (1, .int a1), (2, .int l2_3), (3, .int (nI k3_4))]) hx hb dX5_brown_24 hl (by decide) rfl (fun ls hl => ?_)
        refine lv_iload hx hb dX5_brown_26 (lv_at hl 0 rfl) ?_
        refine lv_iload_n hx hb dX5_brown_28 rfl (lv_at hl 3 rfl) ?_
        obtain ⟨o_8, E_8, E⟩ := x_nm_ex E
        have J_8 : ∀ (v_7 : Int32), o_8 = v_7 → ∀ (H : Heap) (locs : List Loc) (ls : Array Slot), va_P g.1 vwCl [(tA, .inr (5, [.int (nI t_length), .ref tA_text, .int (nI t_at), .int (nI t_begin), .int t_told, .ref tA_is, .ref tA_doings, .ref tA_doing, .int t_items, .ref tA_row, .ref tA_isKept, .int t_when, .int t_most, .int t_mostAt, .int t_hiss, .ref tA_best, .ref tA_heats, .ref tA_orders, .ref tA_has, .int (nI t_tests), .ref tA_salt, .ref tA_crumbs, .long t_traced, .int t_hasSkin, .int t_hasBend])), (tA_row, .inl (g.2.1 0, 80, .inl t_row))] H → va_D A [(tA, .inr (5, [.int (nI t_length), .ref tA_text, .int (nI t_at), .int (nI t_begin), .int t_told, .ref tA_is, .ref tA_doings, .ref tA_doing, .int t_items, .ref tA_row, .ref tA_isKept, .int t_when, .int t_most, .int t_mostAt, .int t_hiss, .ref tA_best, .ref tA_heats, .ref tA_orders, .ref tA_has, .int (nI t_tests), .ref tA_salt, .ref tA_crumbs, .long t_traced, .int t_hasSkin, .int t_hasBend])), (tA_row, .inl (g.2.1 0, 80, .inl t_row))] → va_S A s.heap H locs → lv_has ls 5 [(0, .ref tA), (1, .int a1), (2, .int l2_3), (3, .int (nI k3_4)), (4, .int (t_row (65 + k3_4)))] → W p l e rX5_brown s m args below meth c H locs 0 0 Q (F0 m 37 ls [.int v_7]) := by
          intro v_7 hE  H locs ls hP hD hS hl
          try rw [hE] at E
          refine lv_iload_n hx hb dX5_brown_37 rfl (lv_at hl 1 rfl) ?_
          obtain ⟨o_10, E_10, E⟩ := x_nm_ex E
          have J_10 : ∀ (v_9 : Int32), o_10 = v_9 → ∀ (H : Heap) (locs : List Loc) (ls : Array Slot), va_P g.1 vwCl [(tA, .inr (5, [.int (nI t_length), .ref tA_text, .int (nI t_at), .int (nI t_begin), .int t_told, .ref tA_is, .ref tA_doings, .ref tA_doing, .int t_items, .ref tA_row, .ref tA_isKept, .int t_when, .int t_most, .int t_mostAt, .int t_hiss, .ref tA_best, .ref tA_heats, .ref tA_orders, .ref tA_has, .int (nI t_tests), .ref tA_salt, .ref tA_crumbs, .long t_traced, .int t_hasSkin, .int t_hasBend])), (tA_row, .inl (g.2.1 0, 80, .inl t_row))] H → va_D A [(tA, .inr (5, [.int (nI t_length), .ref tA_text, .int (nI t_at), .int (nI t_begin), .int t_told, .ref tA_is, .ref tA_doings, .ref tA_doing, .int t_items, .ref tA_row, .ref tA_isKept, .int t_when, .int t_most, .int t_mostAt, .int t_hiss, .ref tA_best, .ref tA_heats, .ref tA_orders, .ref tA_has, .int (nI t_tests), .ref tA_salt, .ref tA_crumbs, .long t_traced, .int t_hasSkin, .int t_hasBend])), (tA_row, .inl (g.2.1 0, 80, .inl t_row))] → va_S A s.heap H locs → lv_has ls 5 [(0, .ref tA), (1, .int a1), (3, .int (nI k3_4))] → W p l e rX5_brown s m args below meth c H locs 0 0 Q (F0 m 53 ls [.int v_9]) := by
            intro v_9 hE  H locs ls hP hD hS hl
            try rw [hE] at E
            refine lv_istore_n (lv' := [(2, .int v_9), (0, .ref tA), (1, .int a1), (3, .int (nI k3_4))]) hx hb dX5_brown_53 rfl hl (by decide) rfl (fun ls hl => ?_)
            refine lv_iinc (v := nI (k3_4 + 1)) (lv' := [(3, .int (nI (k3_4 + 1))), (2, .int v_9), (0, .ref tA), (1, .int a1)]) hx hb dX5_brown_54 hl (k := 3) rfl (nI_1 k3_4) (by decide) rfl (fun ls hl => ?_)
            refine lv_goto (tgt := 10) hx hb dX5_brown_57 (by decide) ?_
            exact ih_5 v_9 (k3_4 + 1) (by first | omega | assumption | exact Eq.trans (by assumption) (by assumption)) (by omega) E H locs ls hP hD hS (lv_sub hl [2, 3, 1, 0] rfl)
          have E := E_10
          refine x_icmp_neI (tgt := 52) hx hb dX5_brown_38 (by decide) (fun c_11 => ?_) (fun c_11 => ?_)
          · have E := x_neg E c_11
            refine lv_iload_n hx hb dX5_brown_52 rfl (lv_at hl 2 rfl) ?_
            exact J_10 l2_3 E  H locs ls hP hD hS (lv_sub hl [0, 1, 3] rfl)
          · have E := x_pos E c_11
            refine lv_iload hx hb dX5_brown_41 (lv_at hl 4 rfl) ?_
            refine lv_iload_n hx hb dX5_brown_43 rfl (lv_at hl 2 rfl) ?_
            refine lv_icmp_eq (tgt := 52) hx hb dX5_brown_44 (by decide) (fun c_12 => ?_) (fun c_12 => ?_)
            · have E := x_pos E c_12
              refine lv_iload_n hx hb dX5_brown_52 rfl (lv_at hl 2 rfl) ?_
              exact J_10 l2_3 E  H locs ls hP hD hS (lv_sub hl [0, 1, 3] rfl)
            · have E := x_neg E c_12
              refine lv_iload hx hb dX5_brown_47 (lv_at hl 4 rfl) ?_
              refine lv_goto (tgt := 53) hx hb dX5_brown_49 (by decide) ?_
              exact J_10 (t_row (65 + k3_4)) E  H locs ls hP hD hS (lv_sub hl [0, 1, 3] rfl)
        have E := E_8
        refine lv_icmp_le (tgt := 36) hx hb dX5_brown_29 (by decide) (fun c_13 => ?_) (fun c_13 => ?_)
        · have E := x_pos E c_13
          refine lv_iconst (v := 0) hx hb dX5_brown_36 (by decide) ?_
          exact J_8 0 E  H locs ls hP hD hS (lv_sub hl [1, 2, 3, 4, 0] rfl)
        · have E := x_neg E c_13
          refine lv_iconst (v := 1) hx hb dX5_brown_32 (by decide) ?_
          refine lv_goto (tgt := 37) hx hb dX5_brown_33 (by decide) ?_
          exact J_8 1 E  H locs ls hP hD hS (lv_sub hl [1, 2, 3, 4, 0] rfl)
  exact L_5 (4 + 1) (t_row 65) 1 (by first | omega | assumption | rfl) (by omega) E H locs ls hP hD hS (lv_sub hl [2, 3, 1, 0] rfl)
abbrev rX5_run : Room := { frames := 4, cells := 0, slots := 0, locals := 106 }
theorem vX5_run : yX5_run.cls = RX5 ∧ yX5_run.cls ≠ "java/lang/invoke/MethodHandle" ∧ yX5_run.cls ≠ "java/lang/invoke/VarHandle" ∧ (parseMethodDescriptor yX5_run.desc).map (fun d => d.parameters.length) = some 2 := by decide +kernel
abbrev wX5_run : List Cond := Cond.code yX5_run cX5_run 4 (some .int) :: wsL_law
def F_X5_run (t_is : Nat → Int32) (t_doings : Nat → Int32) (t_doing : Nat → Int32) (t_row : Nat → Int32) (t_when : Int32) (t_most : Int32) (t_mostAt : Int32) (t_hiss : Int32) (a1 : Int32) (a2 : Int32) : Int32 × Int32 × Int32 × Int32 × Int32 × (Nat → Int32) :=
  x_nm (F_X5_in a1.toInt64 0 15) fun z_1 => if z_1 = 0 then ((-1), t_when, t_most, t_mostAt, t_hiss, t_row) else x_nm (a1.toNatClampNeg) fun j_7 => x_nm (F_X5_in a2.toInt64 0 10) fun z_8 => if z_8 = 0 then ((-1), t_when, t_most, t_mostAt, t_hiss, t_row) else x_nm (a2.toNatClampNeg) fun j_14 => x_nm (F_X5_fresh t_is t_row (nI j_7)) fun u_21 => x_nm (F_X5_plan t_is t_doings t_doing u_21.2.2.2.2 u_21.1 u_21.2.1 u_21.2.2.1 u_21.2.2.2.1 0) fun u_28 => if (nI j_14) = 0 then (u_28.1, u_28.1, u_28.2.1, u_28.2.2.1, u_28.2.2.2.1, u_28.2.2.2.2) else if (nI j_14) = 1 then (u_28.2.2.2.2 73, u_28.1, u_28.2.1, u_28.2.2.1, u_28.2.2.2.1, u_28.2.2.2.2) else if (nI j_14) = 2 then (u_28.2.2.2.2 74, u_28.1, u_28.2.1, u_28.2.2.1, u_28.2.2.2.1, u_28.2.2.2.2) else if (nI j_14) = 3 then x_nm (F_X5_brown u_28.2.2.2.2 0) fun z_33 => (z_33, u_28.1, u_28.2.1, u_28.2.2.1, u_28.2.2.2.1, u_28.2.2.2.2) else if (nI j_14) = 4 then x_nm (F_X5_brown u_28.2.2.2.2 1) fun z_37 => (z_37, u_28.1, u_28.2.1, u_28.2.2.1, u_28.2.2.2.1, u_28.2.2.2.2) else if (nI j_14) = 5 then (u_28.2.2.2.2 64, u_28.1, u_28.2.1, u_28.2.2.1, u_28.2.2.2.1, u_28.2.2.2.2) else if (nI j_14) = 6 then (u_28.2.2.2.2 69, u_28.1, u_28.2.1, u_28.2.2.1, u_28.2.2.2.1, u_28.2.2.2.2) else if (nI j_14) = 7 then (u_28.2.1, u_28.1, u_28.2.1, u_28.2.2.1, u_28.2.2.2.1, u_28.2.2.2.2) else if (nI j_14) = 8 then (u_28.2.2.1, u_28.1, u_28.2.1, u_28.2.2.1, u_28.2.2.2.1, u_28.2.2.2.2) else if (nI j_14) = 9 then (u_28.2.2.2.1, u_28.1, u_28.2.1, u_28.2.2.1, u_28.2.2.2.1, u_28.2.2.2.2) else x_nm (α := Int32) (if u_28.1 < 0 then (-9) else if u_28.2.2.2.1 < 0 then (-9) else if u_28.2.2.2.1 ≤ u_28.1 then u_28.1 - u_28.2.2.2.1 else (-9)) fun u_46 => (u_46, u_28.1, u_28.2.1, u_28.2.2.1, u_28.2.2.2.1, u_28.2.2.2.2)
set_option maxHeartbeats 4000000 in
set_option maxRecDepth 100000 in
theorem m_X5_run (l : Launch) (g : x_G) (tA tA_is tA_doings tA_doing tA_row tA_text tA_isKept tA_best tA_heats tA_orders tA_has tA_salt tA_crumbs : Nat) (t_length : Nat) (t_at : Nat) (t_begin : Nat) (t_told : Int32) (t_items : Int32) (t_when : Int32) (t_most : Int32) (t_mostAt : Int32) (t_hiss : Int32) (t_tests : Nat) (t_traced : Int64) (t_hasSkin : Int32) (t_hasBend : Int32) (t_is : Nat → Int32) (t_doings : Nat → Int32) (t_doing : Nat → Int32) (t_row : Nat → Int32) (a1 : Int32) (a2 : Int32) (h_0 : (t_doings 0).toNatClampNeg ≤ 12) (h_1 : t_doings 0 = nI (t_doings 0).toNatClampNeg) (h_2 : ∀ k : Nat, k < 12 → (t_doing (3 * k + 2)).toNatClampNeg ≤ 99 ∧ t_doing (3 * k + 2) = nI (t_doing (3 * k + 2)).toNatClampNeg) (h_3 : ¬ 8 * t_is 0 = 0) : x_MetI l yX5_run wX5_run rX5_run g [.ref tA, .int a1, .int a2] [(tA, .inr (5, [.int (nI t_length), .ref tA_text, .int (nI t_at), .int (nI t_begin), .int t_told, .ref tA_is, .ref tA_doings, .ref tA_doing, .int t_items, .ref tA_row, .ref tA_isKept, .int t_when, .int t_most, .int t_mostAt, .int t_hiss, .ref tA_best, .ref tA_heats, .ref tA_orders, .ref tA_has, .int (nI t_tests), .ref tA_salt, .ref tA_crumbs, .long t_traced, .int t_hasSkin, .int t_hasBend])), (tA_is, .inl (g.2.1 0, 18, .inl t_is)), (tA_doings, .inl (g.2.1 0, 2, .inl t_doings)), (tA_doing, .inl (g.2.1 0, 72, .inl t_doing)), (tA_row, .inl (g.2.1 0, 80, .inl t_row))] (fun (r : Int32) (u : Int32 × Int32 × Int32 × Int32 × (Nat → Int32)) => (r, u) = F_X5_run t_is t_doings t_doing t_row t_when t_most t_mostAt t_hiss a1 a2) (fun u => [(tA, .inr (5, [.int (nI t_length), .ref tA_text, .int (nI t_at), .int (nI t_begin), .int t_told, .ref tA_is, .ref tA_doings, .ref tA_doing, .int t_items, .ref tA_row, .ref tA_isKept, .int u.1, .int u.2.1, .int u.2.2.1, .int u.2.2.2.1, .ref tA_best, .ref tA_heats, .ref tA_orders, .ref tA_has, .int (nI t_tests), .ref tA_salt, .ref tA_crumbs, .long t_traced, .int t_hasSkin, .int t_hasBend])), (tA_is, .inl (g.2.1 0, 18, .inl t_is)), (tA_doings, .inl (g.2.1 0, 2, .inl t_doings)), (tA_doing, .inl (g.2.1 0, 72, .inl t_doing)), (tA_row, .inl (g.2.1 0, 80, .inl u.2.2.2.2))]) := by
  refine x_startI (cc := cX5_run) (maxL := 4) (by decide) rfl (Nat.le_of_ble_eq_true rfl) ?_
  intro p e s m args below meth c Q A ls H locs hx hb hml hown hts hK hX hP hD hS hA hl RET
  have hown : s.vm.findClass RX5 = some m.cls := hown
  have hl : lv_has ls 4 [(0, .ref tA), (1, .int a1), (2, .int a2)] := hl
  obtain ⟨o_0, hO⟩ : ∃ z, z = F_X5_run t_is t_doings t_doing t_row t_when t_most t_mostAt t_hiss a1 a2 := ⟨_, rfl⟩
  have E := hO
  rw [F_X5_run.eq_1] at E
  refine lv_iload_n hx hb dX5_run_0 rfl (lv_at hl 1 rfl) ?_
  refine lv_i2l (v := a1.toInt64) hx hb dX5_run_1 rfl ?_
  refine lv_lconst (v := 0) hx hb dX5_run_2 (by decide) ?_
  refine lv_ldc2 (v := 15) hx hb hown (hts _ kw_515) dX5_run_3 ?_
  refine x_callS0 ⟨hx, hb, hml, hown, hts⟩ hK hX hP hD hS hA (m_X5_in l g a1.toInt64 0 15) (va_cwS 3 hts (x_gS kw_129 kw_130 kw_5 kw_131) rfl rfl rfl vX5_inS ⟨Nat.le_of_ble_eq_true rfl, Nat.le_of_ble_eq_true rfl⟩) rfl hl.1 rfl (Nat.le_of_ble_eq_true rfl) dX5_run_6 ⟨Nat.zero_le _, Nat.zero_le _⟩ (fun z_1 _ H locs hw_2 hP hD hS => ?_)
  obtain ⟨hw_2, b_3⟩ := hw_2
  have E := x_nm_eq E hw_2
  refine lv_if_eq (tgt := 24) hx hb dX5_run_9 (by decide) (fun c_5 => ?_) (fun c_5 => ?_)
  · have E := x_pos E c_5
    refine lv_iconst (v := (-1)) hx hb dX5_run_24 (by decide) ?_
    exact RET (-1) (t_when, t_most, t_mostAt, t_hiss, t_row) H locs _ _ (E.symm.trans hO) rfl hP hD hS dX5_run_25
  · have E := x_neg E c_5
    obtain ⟨j_7, hj⟩ : ∃ z, z = (a1).toNatClampNeg := ⟨_, rfl⟩
    have r_6_0 := (x_ins (lo := 0) (hi := 15) (by omega) (by omega) (fun q => c_5 (hw_2.trans q)))
    rw [← hj] at r_6_0
    obtain ⟨r_6_0_a, r_6_0_b, e_6_0⟩ := r_6_0
    have E := x_nm_eq E hj
    have hl : lv_has ls 4 [(0, .ref tA), (1, .int (nI j_7)), (2, .int a2)] := by rw [e_6_0] at hl; exact hl
    refine lv_iload_n hx hb dX5_run_12 rfl (lv_at hl 2 rfl) ?_
    refine lv_i2l (v := a2.toInt64) hx hb dX5_run_13 rfl ?_
    refine lv_lconst (v := 0) hx hb dX5_run_14 (by decide) ?_
    refine lv_ldc2 (v := 10) hx hb hown (hts _ kw_359) dX5_run_15 ?_
    refine x_callS0 ⟨hx, hb, hml, hown, hts⟩ hK hX hP hD hS hA (m_X5_in l g a2.toInt64 0 10) (va_cwS 3 hts (x_gS kw_129 kw_130 kw_5 kw_131) rfl rfl rfl vX5_inS ⟨Nat.le_of_ble_eq_true rfl, Nat.le_of_ble_eq_true rfl⟩) rfl hl.1 rfl (Nat.le_of_ble_eq_true rfl) dX5_run_18 ⟨Nat.zero_le _, Nat.zero_le _⟩ (fun z_8 _ H locs hw_9 hP hD hS => ?_)
    obtain ⟨hw_9, b_10⟩ := hw_9
    have E := x_nm_eq E hw_9
    refine x_if_neI (tgt := 26) hx hb dX5_run_21 (by decide) (fun c_12 => ?_) (fun c_12 => ?_)
    · have E := x_neg E c_12
      obtain ⟨j_14, hj⟩ : ∃ z, z = (a2).toNatClampNeg := ⟨_, rfl⟩
      have r_13_0 := (x_ins (lo := 0) (hi := 10) (by omega) (by omega) (fun q => c_12 (hw_9.trans q)))
      rw [← hj] at r_13_0
      obtain ⟨r_13_0_a, r_13_0_b, e_13_0⟩ := r_13_0
      have E := x_nm_eq E hj
      have hl : lv_has ls 4 [(0, .ref tA), (1, .int (nI j_7)), (2, .int (nI j_14))] := by rw [e_13_0] at hl; exact hl
      refine lv_aload_n hx hb dX5_run_26 rfl (lv_at hl 0 rfl) ?_
      refine lv_iload_n hx hb dX5_run_27 rfl (lv_at hl 1 rfl) ?_
      refine x_callVv (w2 := fun u => [(tA, .inr (5, [.int (nI t_length), .ref tA_text, .int (nI t_at), .int (nI t_begin), .int t_told, .ref tA_is, .ref tA_doings, .ref tA_doing, .int t_items, .ref tA_row, .ref tA_isKept, .int u.1, .int u.2.1, .int u.2.2.1, .int u.2.2.2.1, .ref tA_best, .ref tA_heats, .ref tA_orders, .ref tA_has, .int (nI t_tests), .ref tA_salt, .ref tA_crumbs, .long t_traced, .int t_hasSkin, .int t_hasBend])), (tA_is, .inl (g.2.1 0, 18, .inl t_is)), (tA_doings, .inl (g.2.1 0, 2, .inl t_doings)), (tA_doing, .inl (g.2.1 0, 72, .inl t_doing)), (tA_row, .inl (g.2.1 0, 80, .inl u.2.2.2.2))]) (wr := [(tA_doings, .inl (g.2.1 0, 2, .inl t_doings)), (tA_doing, .inl (g.2.1 0, 72, .inl t_doing))]) [0, 1, 4] [2, 3] [2, 3, 0, 1, 4] 0 5 ⟨hx, hb, hml, hown, hts⟩ hK hX hP hD hS hA (m_X5_fresh l g tA tA_is tA_row tA_text tA_doings tA_doing tA_isKept tA_best tA_heats tA_orders tA_has tA_salt tA_crumbs t_length t_at t_begin t_told t_items t_when t_most t_mostAt t_hiss t_tests t_traced t_hasSkin t_hasBend t_is t_row (nI j_7)) (cwV 1 hts (x_gV kw_608 kw_609 kw_610 kw_5 kw_611) rfl rfl rfl vX5_fresh ⟨Nat.le_of_ble_eq_true rfl, Nat.le_of_ble_eq_true rfl⟩) rfl rfl rfl rfl rfl rfl rfl (by decide) (fun _ => rfl) rfl rfl hl.1 rfl (Nat.le_of_ble_eq_true rfl) dX5_run_28 ⟨Nat.zero_le _, Nat.zero_le _⟩ (fun u H locs hw_20 hP hD hS => ?_)
      obtain ⟨t_when_15, t_most_16, t_mostAt_17, t_hiss_18, t_row_19⟩ := u
      have hP : va_P g.1 vwCl [(tA, .inr (5, [.int (nI t_length), .ref tA_text, .int (nI t_at), .int (nI t_begin), .int t_told, .ref tA_is, .ref tA_doings, .ref tA_doing, .int t_items, .ref tA_row, .ref tA_isKept, .int t_when_15, .int t_most_16, .int t_mostAt_17, .int t_hiss_18, .ref tA_best, .ref tA_heats, .ref tA_orders, .ref tA_has, .int (nI t_tests), .ref tA_salt, .ref tA_crumbs, .long t_traced, .int t_hasSkin, .int t_hasBend])), (tA_is, .inl (g.2.1 0, 18, .inl t_is)), (tA_doings, .inl (g.2.1 0, 2, .inl t_doings)), (tA_doing, .inl (g.2.1 0, 72, .inl t_doing)), (tA_row, .inl (g.2.1 0, 80, .inl t_row_19))] H := hP
      have hD : va_D A [(tA, .inr (5, [.int (nI t_length), .ref tA_text, .int (nI t_at), .int (nI t_begin), .int t_told, .ref tA_is, .ref tA_doings, .ref tA_doing, .int t_items, .ref tA_row, .ref tA_isKept, .int t_when_15, .int t_most_16, .int t_mostAt_17, .int t_hiss_18, .ref tA_best, .ref tA_heats, .ref tA_orders, .ref tA_has, .int (nI t_tests), .ref tA_salt, .ref tA_crumbs, .long t_traced, .int t_hasSkin, .int t_hasBend])), (tA_is, .inl (g.2.1 0, 18, .inl t_is)), (tA_doings, .inl (g.2.1 0, 2, .inl t_doings)), (tA_doing, .inl (g.2.1 0, 72, .inl t_doing)), (tA_row, .inl (g.2.1 0, 80, .inl t_row_19))] := hD
      have E := x_nm_eq E hw_20
      refine lv_aload_n hx hb dX5_run_31 rfl (lv_at hl 0 rfl) ?_
      refine lv_iconst (v := 0) hx hb dX5_run_32 (by decide) ?_
      refine x_callVv (w2 := fun u => [(tA, .inr (5, [.int (nI t_length), .ref tA_text, .int (nI t_at), .int (nI t_begin), .int t_told, .ref tA_is, .ref tA_doings, .ref tA_doing, .int t_items, .ref tA_row, .ref tA_isKept, .int u.1, .int u.2.1, .int u.2.2.1, .int u.2.2.2.1, .ref tA_best, .ref tA_heats, .ref tA_orders, .ref tA_has, .int (nI t_tests), .ref tA_salt, .ref tA_crumbs, .long t_traced, .int t_hasSkin, .int t_hasBend])), (tA_is, .inl (g.2.1 0, 18, .inl t_is)), (tA_doings, .inl (g.2.1 0, 2, .inl t_doings)), (tA_doing, .inl (g.2.1 0, 72, .inl t_doing)), (tA_row, .inl (g.2.1 0, 80, .inl u.2.2.2.2))]) (wr := []) [0, 1, 2, 3, 4] [] [0, 1, 2, 3, 4] 0 5 ⟨hx, hb, hml, hown, hts⟩ hK hX hP hD hS hA (m_X5_plan l g tA tA_is tA_doings tA_doing tA_row tA_text tA_isKept tA_best tA_heats tA_orders tA_has tA_salt tA_crumbs t_length t_at t_begin t_told t_items t_when_15 t_most_16 t_mostAt_17 t_hiss_18 t_tests t_traced t_hasSkin t_hasBend t_is t_doings t_doing t_row_19 0 (by first | assumption | omega | exact x_e8 (by assumption) (by assumption)) (by first | assumption | omega | exact x_e8 (by assumption) (by assumption)) (by first | assumption | omega | exact x_e8 (by assumption) (by assumption)) (by first | assumption | omega | exact x_e8 (by assumption) (by assumption))) (cwV 1 hts (x_gV kw_612 kw_613 kw_614 kw_5 kw_615) rfl rfl rfl vX5_plan ⟨Nat.le_of_ble_eq_true rfl, Nat.le_of_ble_eq_true rfl⟩) rfl rfl rfl rfl rfl rfl rfl (by decide) (fun _ => rfl) rfl rfl hl.1 rfl (Nat.le_of_ble_eq_true rfl) dX5_run_33 ⟨Nat.zero_le _, Nat.zero_le _⟩ (fun u H locs hw_27 hP hD hS => ?_)
      obtain ⟨t_when_22, t_most_23, t_mostAt_24, t_hiss_25, t_row_26⟩ := u
      have hP : va_P g.1 vwCl [(tA, .inr (5, [.int (nI t_length), .ref tA_text, .int (nI t_at), .int (nI t_begin), .int t_told, .ref tA_is, .ref tA_doings, .ref tA_doing, .int t_items, .ref tA_row, .ref tA_isKept, .int t_when_22, .int t_most_23, .int t_mostAt_24, .int t_hiss_25, .ref tA_best, .ref tA_heats, .ref tA_orders, .ref tA_has, .int (nI t_tests), .ref tA_salt, .ref tA_crumbs, .long t_traced, .int t_hasSkin, .int t_hasBend])), (tA_is, .inl (g.2.1 0, 18, .inl t_is)), (tA_doings, .inl (g.2.1 0, 2, .inl t_doings)), (tA_doing, .inl (g.2.1 0, 72, .inl t_doing)), (tA_row, .inl (g.2.1 0, 80, .inl t_row_26))] H := hP
      have hD : va_D A [(tA, .inr (5, [.int (nI t_length), .ref tA_text, .int (nI t_at), .int (nI t_begin), .int t_told, .ref tA_is, .ref tA_doings, .ref tA_doing, .int t_items, .ref tA_row, .ref tA_isKept, .int t_when_22, .int t_most_23, .int t_mostAt_24, .int t_hiss_25, .ref tA_best, .ref tA_heats, .ref tA_orders, .ref tA_has, .int (nI t_tests), .ref tA_salt, .ref tA_crumbs, .long t_traced, .int t_hasSkin, .int t_hasBend])), (tA_is, .inl (g.2.1 0, 18, .inl t_is)), (tA_doings, .inl (g.2.1 0, 2, .inl t_doings)), (tA_doing, .inl (g.2.1 0, 72, .inl t_doing)), (tA_row, .inl (g.2.1 0, 80, .inl t_row_26))] := hD
      have E := x_nm_eq E hw_27
      refine lv_bipush (v := 60) hx hb dX5_run_36 (by decide) ?_
      refine lv_istore_n (lv' := [(3, .int 60), (0, .ref tA), (1, .int (nI j_7)), (2, .int (nI j_14))]) hx hb dX5_run_38 rfl hl (by decide) rfl (fun ls hl => ?_)
      refine lv_iload_n hx hb dX5_run_39 rfl (lv_at hl 3 rfl) ?_
      by_cases c_29 : (nI j_14) = 0
      · have E := x_pos E c_29
        refine lv_tableIn (off := 56) (tgt := 96) hx hb dX5_run_40 (by rw [c_29]; decide) (by rw [c_29]; decide) (by rw [c_29]; decide) (by decide) ?_
        refine lv_aload_n hx hb dX5_run_96 rfl (lv_at hl 1 rfl) ?_
        refine va_get (ci := 5) (v := .int t_when_22) (C := RX5) (T := TX5) (N := 25) hx hb hts inlX5 hown hK.1 hP 0 rfl rfl 11 (by decide) (hts _ kw_99) (fun _ h9 => h9) rfl dX5_run_97 ?_
        exact RET t_when_22 (t_when_22, t_most_23, t_mostAt_24, t_hiss_25, t_row_26) H locs _ _ (E.symm.trans hO) rfl hP hD hS dX5_run_100
      have E := x_neg E c_29
      by_cases c_30 : (nI j_14) = 1
      · have E := x_pos E c_30
        refine lv_tableIn (off := 61) (tgt := 101) hx hb dX5_run_40 (by rw [c_30]; decide) (by rw [c_30]; decide) (by rw [c_30]; decide) (by decide) ?_
        refine lv_aload_n hx hb dX5_run_101 rfl (lv_at hl 1 rfl) ?_
        refine va_get (ci := 5) (v := .ref tA_row) (C := RX5) (T := TX5) (N := 25) hx hb hts inlX5 hown hK.1 hP 0 rfl rfl 9 (by decide) (hts _ kw_97) (fun _ h9 => h9) rfl dX5_run_102 ?_
        refine lv_iload_n hx hb dX5_run_105 rfl (lv_at hl 0 rfl) ?_
        refine lv_bipush (v := 13) hx hb dX5_run_106 (by decide) ?_
        refine lv_iadd hx hb dX5_run_108 ?_
        refine x_eqi (nI_add 60 13) ?_
        refine x_ialdN hx hb hK hP 4 73 rfl (by omega) (by decide) dX5_run_109 ?_
        exact RET (t_row_26 73) (t_when_22, t_most_23, t_mostAt_24, t_hiss_25, t_row_26) H locs _ _ (E.symm.trans hO) rfl hP hD hS dX5_run_110
      have E := x_neg E c_30
      by_cases c_31 : (nI j_14) = 2
      · have E := x_pos E c_31
        refine lv_tableIn (off := 71) (tgt := 111) hx hb dX5_run_40 (by rw [c_31]; decide) (by rw [c_31]; decide) (by rw [c_31]; decide) (by decide) ?_
        refine lv_aload_n hx hb dX5_run_111 rfl (lv_at hl 1 rfl) ?_
        refine va_get (ci := 5) (v := .ref tA_row) (C := RX5) (T := TX5) (N := 25) hx hb hts inlX5 hown hK.1 hP 0 rfl rfl 9 (by decide) (hts _ kw_97) (fun _ h9 => h9) rfl dX5_run_112 ?_
        refine lv_iload_n hx hb dX5_run_115 rfl (lv_at hl 0 rfl) ?_
        refine lv_bipush (v := 14) hx hb dX5_run_116 (by decide) ?_
        refine lv_iadd hx hb dX5_run_118 ?_
        refine x_eqi (nI_add 60 14) ?_
        refine x_ialdN hx hb hK hP 4 74 rfl (by omega) (by decide) dX5_run_119 ?_
        exact RET (t_row_26 74) (t_when_22, t_most_23, t_mostAt_24, t_hiss_25, t_row_26) H locs _ _ (E.symm.trans hO) rfl hP hD hS dX5_run_120
      have E := x_neg E c_31
      by_cases c_32 : (nI j_14) = 3
      · have E := x_pos E c_32
        refine lv_tableIn (off := 81) (tgt := 121) hx hb dX5_run_40 (by rw [c_32]; decide) (by rw [c_32]; decide) (by rw [c_32]; decide) (by decide) ?_
        refine lv_aload_n hx hb dX5_run_121 rfl (lv_at hl 1 rfl) ?_
        refine lv_iconst (v := 0) hx hb dX5_run_122 (by decide) ?_
        refine x_callVi (w2 := fun u => [(tA, .inr (5, [.int (nI t_length), .ref tA_text, .int (nI t_at), .int (nI t_begin), .int t_told, .ref tA_is, .ref tA_doings, .ref tA_doing, .int t_items, .ref tA_row, .ref tA_isKept, .int t_when_22, .int t_most_23, .int t_mostAt_24, .int t_hiss_25, .ref tA_best, .ref tA_heats, .ref tA_orders, .ref tA_has, .int (nI t_tests), .ref tA_salt, .ref tA_crumbs, .long t_traced, .int t_hasSkin, .int t_hasBend])), (tA_is, .inl (g.2.1 0, 18, .inl t_is)), (tA_doings, .inl (g.2.1 0, 2, .inl t_doings)), (tA_doing, .inl (g.2.1 0, 72, .inl t_doing)), (tA_row, .inl (g.2.1 0, 80, .inl t_row_26))]) (wr := [(tA_is, .inl (g.2.1 0, 18, .inl t_is)), (tA_doings, .inl (g.2.1 0, 2, .inl t_doings)), (tA_doing, .inl (g.2.1 0, 72, .inl t_doing))]) [0, 4] [1, 2, 3] [3, 0, 1, 2, 4] 0 5 ⟨hx, hb, hml, hown, hts⟩ hK hX hP hD hS hA (m_X5_brown l g tA tA_row tA_text tA_is tA_doings tA_doing tA_isKept tA_best tA_heats tA_orders tA_has tA_salt tA_crumbs t_length t_at t_begin t_told t_items t_when_22 t_most_23 t_mostAt_24 t_hiss_25 t_tests t_traced t_hasSkin t_hasBend t_row_26 0) (cwV 1 hts (x_gV kw_620 kw_621 kw_622 kw_5 kw_623) rfl rfl rfl vX5_brown ⟨Nat.le_of_ble_eq_true rfl, Nat.le_of_ble_eq_true rfl⟩) rfl rfl rfl rfl rfl rfl rfl (by decide) (fun _ => rfl) rfl rfl hl.1 rfl (Nat.le_of_ble_eq_true rfl) dX5_run_123 ⟨Nat.zero_le _, Nat.zero_le _⟩ (fun z_33 _ H locs hw_34 hP hD hS => ?_)
        have E := x_nm_eq E hw_34
        exact RET z_33 (t_when_22, t_most_23, t_mostAt_24, t_hiss_25, t_row_26) H locs _ _ (E.symm.trans hO) rfl hP hD hS dX5_run_126
      have E := x_neg E c_32
      by_cases c_36 : (nI j_14) = 4
      · have E := x_pos E c_36
        refine lv_tableIn (off := 87) (tgt := 127) hx hb dX5_run_40 (by rw [c_36]; decide) (by rw [c_36]; decide) (by rw [c_36]; decide) (by decide) ?_
        refine lv_aload_n hx hb dX5_run_127 rfl (lv_at hl 1 rfl) ?_
        refine lv_iconst (v := 1) hx hb dX5_run_128 (by decide) ?_
        refine x_callVi (w2 := fun u => [(tA, .inr (5, [.int (nI t_length), .ref tA_text, .int (nI t_at), .int (nI t_begin), .int t_told, .ref tA_is, .ref tA_doings, .ref tA_doing, .int t_items, .ref tA_row, .ref tA_isKept, .int t_when_22, .int t_most_23, .int t_mostAt_24, .int t_hiss_25, .ref tA_best, .ref tA_heats, .ref tA_orders, .ref tA_has, .int (nI t_tests), .ref tA_salt, .ref tA_crumbs, .long t_traced, .int t_hasSkin, .int t_hasBend])), (tA_is, .inl (g.2.1 0, 18, .inl t_is)), (tA_doings, .inl (g.2.1 0, 2, .inl t_doings)), (tA_doing, .inl (g.2.1 0, 72, .inl t_doing)), (tA_row, .inl (g.2.1 0, 80, .inl t_row_26))]) (wr := [(tA_is, .inl (g.2.1 0, 18, .inl t_is)), (tA_doings, .inl (g.2.1 0, 2, .inl t_doings)), (tA_doing, .inl (g.2.1 0, 72, .inl t_doing))]) [0, 4] [1, 2, 3] [3, 0, 1, 2, 4] 0 5 ⟨hx, hb, hml, hown, hts⟩ hK hX hP hD hS hA (m_X5_brown l g tA tA_row tA_text tA_is tA_doings tA_doing tA_isKept tA_best tA_heats tA_orders tA_has tA_salt tA_crumbs t_length t_at t_begin t_told t_items t_when_22 t_most_23 t_mostAt_24 t_hiss_25 t_tests t_traced t_hasSkin t_hasBend t_row_26 1) (cwV 1 hts (x_gV kw_620 kw_621 kw_622 kw_5 kw_623) rfl rfl rfl vX5_brown ⟨Nat.le_of_ble_eq_true rfl, Nat.le_of_ble_eq_true rfl⟩) rfl rfl rfl rfl rfl rfl rfl (by decide) (fun _ => rfl) rfl rfl hl.1 rfl (Nat.le_of_ble_eq_true rfl) dX5_run_129 ⟨Nat.zero_le _, Nat.zero_le _⟩ (fun z_37 _ H locs hw_38 hP hD hS => ?_)
        have E := x_nm_eq E hw_38
        exact RET z_37 (t_when_22, t_most_23, t_mostAt_24, t_hiss_25, t_row_26) H locs _ _ (E.symm.trans hO) rfl hP hD hS dX5_run_132
      have E := x_neg E c_36
      by_cases c_40 : (nI j_14) = 5
      · have E := x_pos E c_40
        refine lv_tableIn (off := 93) (tgt := 133) hx hb dX5_run_40 (by rw [c_40]; decide) (by rw [c_40]; decide) (by rw [c_40]; decide) (by decide) ?_
        refine lv_aload_n hx hb dX5_run_133 rfl (lv_at hl 1 rfl) ?_
        refine va_get (ci := 5) (v := .ref tA_row) (C := RX5) (T := TX5) (N := 25) hx hb hts inlX5 hown hK.1 hP 0 rfl rfl 9 (by decide) (hts _ kw_97) (fun _ h9 => h9) rfl dX5_run_134 ?_
        refine lv_iload_n hx hb dX5_run_137 rfl (lv_at hl 0 rfl) ?_
        refine lv_iconst (v := 4) hx hb dX5_run_138 (by decide) ?_
        refine lv_iadd hx hb dX5_run_139 ?_
        refine x_eqi (nI_add 60 4) ?_
        refine x_ialdN hx hb hK hP 4 64 rfl (by omega) (by decide) dX5_run_140 ?_
        exact RET (t_row_26 64) (t_when_22, t_most_23, t_mostAt_24, t_hiss_25, t_row_26) H locs _ _ (E.symm.trans hO) rfl hP hD hS dX5_run_141
      have E := x_neg E c_40
      by_cases c_41 : (nI j_14) = 6
      · have E := x_pos E c_41
        refine lv_tableIn (off := 102) (tgt := 142) hx hb dX5_run_40 (by rw [c_41]; decide) (by rw [c_41]; decide) (by rw [c_41]; decide) (by decide) ?_
        refine lv_aload_n hx hb dX5_run_142 rfl (lv_at hl 1 rfl) ?_
        refine va_get (ci := 5) (v := .ref tA_row) (C := RX5) (T := TX5) (N := 25) hx hb hts inlX5 hown hK.1 hP 0 rfl rfl 9 (by decide) (hts _ kw_97) (fun _ h9 => h9) rfl dX5_run_143 ?_
        refine lv_iload_n hx hb dX5_run_146 rfl (lv_at hl 0 rfl) ?_
        refine lv_bipush (v := 9) hx hb dX5_run_147 (by decide) ?_
        refine lv_iadd hx hb dX5_run_149 ?_
        refine x_eqi (nI_add 60 9) ?_
        refine x_ialdN hx hb hK hP 4 69 rfl (by omega) (by decide) dX5_run_150 ?_
        exact RET (t_row_26 69) (t_when_22, t_most_23, t_mostAt_24, t_hiss_25, t_row_26) H locs _ _ (E.symm.trans hO) rfl hP hD hS dX5_run_151
      have E := x_neg E c_41
      by_cases c_42 : (nI j_14) = 7
      · have E := x_pos E c_42
        refine lv_tableIn (off := 112) (tgt := 152) hx hb dX5_run_40 (by rw [c_42]; decide) (by rw [c_42]; decide) (by rw [c_42]; decide) (by decide) ?_
        refine lv_aload_n hx hb dX5_run_152 rfl (lv_at hl 1 rfl) ?_
        refine va_get (ci := 5) (v := .int t_most_23) (C := RX5) (T := TX5) (N := 25) hx hb hts inlX5 hown hK.1 hP 0 rfl rfl 12 (by decide) (hts _ kw_605) (fun _ h9 => h9) rfl dX5_run_153 ?_
        exact RET t_most_23 (t_when_22, t_most_23, t_mostAt_24, t_hiss_25, t_row_26) H locs _ _ (E.symm.trans hO) rfl hP hD hS dX5_run_156
      have E := x_neg E c_42
      by_cases c_43 : (nI j_14) = 8
      · have E := x_pos E c_43
        refine lv_tableIn (off := 117) (tgt := 157) hx hb dX5_run_40 (by rw [c_43]; decide) (by rw [c_43]; decide) (by rw [c_43]; decide) (by decide) ?_
        refine lv_aload_n hx hb dX5_run_157 rfl (lv_at hl 1 rfl) ?_
        refine va_get (ci := 5) (v := .int t_mostAt_24) (C := RX5) (T := TX5) (N := 25) hx hb hts inlX5 hown hK.1 hP 0 rfl rfl 13 (by decide) (hts _ kw_606) (fun _ h9 => h9) rfl dX5_run_158 ?_
        exact RET t_mostAt_24 (t_when_22, t_most_23, t_mostAt_24, t_hiss_25, t_row_26) H locs _ _ (E.symm.trans hO) rfl hP hD hS dX5_run_161
      have E := x_neg E c_43
      by_cases c_44 : (nI j_14) = 9
      · have E := x_pos E c_44
        refine lv_tableIn (off := 122) (tgt := 162) hx hb dX5_run_40 (by rw [c_44]; decide) (by rw [c_44]; decide) (by rw [c_44]; decide) (by decide) ?_
        refine lv_aload_n hx hb dX5_run_162 rfl (lv_at hl 1 rfl) ?_
        refine va_get (ci := 5) (v := .int t_hiss_25) (C := RX5) (T := TX5) (N := 25) hx hb hts inlX5 hown hK.1 hP 0 rfl rfl 14 (by decide) (hts _ kw_607) (fun _ h9 => h9) rfl dX5_run_163 ?_
        exact RET t_hiss_25 (t_when_22, t_most_23, t_mostAt_24, t_hiss_25, t_row_26) H locs _ _ (E.symm.trans hO) rfl hP hD hS dX5_run_166
      have E := x_neg E c_44
      refine lv_tableOut (tgt := 167) hx hb dX5_run_40 (x_out 10 (by decide) (fun k hk => by rcases (show k = 0 ∨ k = 1 ∨ k = 2 ∨ k = 3 ∨ k = 4 ∨ k = 5 ∨ k = 6 ∨ k = 7 ∨ k = 8 ∨ k = 9 by omega) with rfl | rfl | rfl | rfl | rfl | rfl | rfl | rfl | rfl | rfl <;> assumption) (by decide)) (by decide) ?_
      refine lv_aload_n hx hb dX5_run_167 rfl (lv_at hl 1 rfl) ?_
      refine va_get (ci := 5) (v := .int t_when_22) (C := RX5) (T := TX5) (N := 25) hx hb hts inlX5 hown hK.1 hP 0 rfl rfl 11 (by decide) (hts _ kw_99) (fun _ h9 => h9) rfl dX5_run_168 ?_
      obtain ⟨o_46, E_46, E⟩ := x_nm_ex E
      have J_46 : ∀ (v_45 : Int32), o_46 = v_45 → ∀ (H : Heap) (locs : List Loc) (ls : Array Slot), va_P g.1 vwCl [(tA, .inr (5, [.int (nI t_length), .ref tA_text, .int (nI t_at), .int (nI t_begin), .int t_told, .ref tA_is, .ref tA_doings, .ref tA_doing, .int t_items, .ref tA_row, .ref tA_isKept, .int t_when_22, .int t_most_23, .int t_mostAt_24, .int t_hiss_25, .ref tA_best, .ref tA_heats, .ref tA_orders, .ref tA_has, .int (nI t_tests), .ref tA_salt, .ref tA_crumbs, .long t_traced, .int t_hasSkin, .int t_hasBend])), (tA_is, .inl (g.2.1 0, 18, .inl t_is)), (tA_doings, .inl (g.2.1 0, 2, .inl t_doings)), (tA_doing, .inl (g.2.1 0, 72, .inl t_doing)), (tA_row, .inl (g.2.1 0, 80, .inl t_row_26))] H → va_D A [(tA, .inr (5, [.int (nI t_length), .ref tA_text, .int (nI t_at), .int (nI t_begin), .int t_told, .ref tA_is, .ref tA_doings, .ref tA_doing, .int t_items, .ref tA_row, .ref tA_isKept, .int t_when_22, .int t_most_23, .int t_mostAt_24, .int t_hiss_25, .ref tA_best, .ref tA_heats, .ref tA_orders, .ref tA_has, .int (nI t_tests), .ref tA_salt, .ref tA_crumbs, .long t_traced, .int t_hasSkin, .int t_hasBend])), (tA_is, .inl (g.2.1 0, 18, .inl t_is)), (tA_doings, .inl (g.2.1 0, 2, .inl t_doings)), (tA_doing, .inl (g.2.1 0, 72, .inl t_doing)), (tA_row, .inl (g.2.1 0, 80, .inl t_row_26))] → va_S A s.heap H locs → lv_has ls 4 [] → W p l e rX5_run s m args below meth c H locs 0 0 Q (F0 m 206 ls [.int v_45]) := by
        intro v_45 hE  H locs ls hP hD hS hl
        try rw [hE] at E
        exact RET v_45 (t_when_22, t_most_23, t_mostAt_24, t_hiss_25, t_row_26) H locs _ _ (E.symm.trans hO) rfl hP hD hS dX5_run_206
      have E := E_46
      refine lv_if_lt (tgt := 192) hx hb dX5_run_171 (by decide) (fun c_47 => ?_) (fun c_47 => ?_)
      · have E := x_pos E c_47
        refine lv_bipush (v := (-9)) hx hb dX5_run_192 (by decide) ?_
        refine lv_goto (tgt := 206) hx hb dX5_run_194 (by decide) ?_
        exact J_46 (-9) E  H locs ls hP hD hS (lv_sub hl [] rfl)
      · have E := x_neg E c_47
        refine lv_aload_n hx hb dX5_run_174 rfl (lv_at hl 1 rfl) ?_
        refine va_get (ci := 5) (v := .int t_hiss_25) (C := RX5) (T := TX5) (N := 25) hx hb hts inlX5 hown hK.1 hP 0 rfl rfl 14 (by decide) (hts _ kw_607) (fun _ h9 => h9) rfl dX5_run_175 ?_
        refine lv_if_lt (tgt := 192) hx hb dX5_run_178 (by decide) (fun c_48 => ?_) (fun c_48 => ?_)
        · have E := x_pos E c_48
          refine lv_bipush (v := (-9)) hx hb dX5_run_192 (by decide) ?_
          refine lv_goto (tgt := 206) hx hb dX5_run_194 (by decide) ?_
          exact J_46 (-9) E  H locs ls hP hD hS (lv_sub hl [] rfl)
        · have E := x_neg E c_48
          refine lv_aload_n hx hb dX5_run_181 rfl (lv_at hl 1 rfl) ?_
          refine va_get (ci := 5) (v := .int t_hiss_25) (C := RX5) (T := TX5) (N := 25) hx hb hts inlX5 hown hK.1 hP 0 rfl rfl 14 (by decide) (hts _ kw_607) (fun _ h9 => h9) rfl dX5_run_182 ?_
          refine lv_aload_n hx hb dX5_run_185 rfl (lv_at hl 1 rfl) ?_
          refine va_get (ci := 5) (v := .int t_when_22) (C := RX5) (T := TX5) (N := 25) hx hb hts inlX5 hown hK.1 hP 0 rfl rfl 11 (by decide) (hts _ kw_99) (fun _ h9 => h9) rfl dX5_run_186 ?_
          refine lv_icmp_le (tgt := 197) hx hb dX5_run_189 (by decide) (fun c_49 => ?_) (fun c_49 => ?_)
          · have E := x_pos E c_49
            refine lv_aload_n hx hb dX5_run_197 rfl (lv_at hl 1 rfl) ?_
            refine va_get (ci := 5) (v := .int t_when_22) (C := RX5) (T := TX5) (N := 25) hx hb hts inlX5 hown hK.1 hP 0 rfl rfl 11 (by decide) (hts _ kw_99) (fun _ h9 => h9) rfl dX5_run_198 ?_
            refine lv_aload_n hx hb dX5_run_201 rfl (lv_at hl 1 rfl) ?_
            refine va_get (ci := 5) (v := .int t_hiss_25) (C := RX5) (T := TX5) (N := 25) hx hb hts inlX5 hown hK.1 hP 0 rfl rfl 14 (by decide) (hts _ kw_607) (fun _ h9 => h9) rfl dX5_run_202 ?_
            refine lv_isub hx hb dX5_run_205 ?_
            exact J_46 (t_when_22 - t_hiss_25) E  H locs ls hP hD hS (lv_sub hl [] rfl)
          · have E := x_neg E c_49
            refine lv_bipush (v := (-9)) hx hb dX5_run_192 (by decide) ?_
            refine lv_goto (tgt := 206) hx hb dX5_run_194 (by decide) ?_
            exact J_46 (-9) E  H locs ls hP hD hS (lv_sub hl [] rfl)
    · have E := x_pos E c_12
      refine lv_iconst (v := (-1)) hx hb dX5_run_24 (by decide) ?_
      exact RET (-1) (t_when, t_most, t_mostAt, t_hiss, t_row) H locs _ _ (E.symm.trans hO) rfl hP hD hS dX5_run_25
abbrev rX5_odds : Room := { frames := 4, cells := 0, slots := 0, locals := 106 }
theorem vX5_odds : yX5_odds.cls = RX5 ∧ yX5_odds.cls ≠ "java/lang/invoke/MethodHandle" ∧ yX5_odds.cls ≠ "java/lang/invoke/VarHandle" ∧ (parseMethodDescriptor yX5_odds.desc).map (fun d => d.parameters.length) = some 0 := by decide +kernel
abbrev wX5_odds : List Cond := Cond.code yX5_odds cX5_odds 5 (some .int) :: wsL_law
def F_X5_odds_L36 (t_is : Nat → Int32) (k2_9 : Nat) : Nat → Int32 → Nat → Int32
  | 0, l3_35, k4_36 => l3_35
  | n_37 + 1, l3_35, k4_36 => if 4 ≤ k4_36 then l3_35 else x_nm (α := Int32) (if (((nI k2_9) >>> ((nI k4_36) &&& 31)) &&& 1) = 1 then t_is 6 else 10 - (t_is 6)) fun u_40 => F_X5_odds_L36 t_is k2_9 n_37 (l3_35 * u_40) (k4_36 + 1)
def F_X5_odds_L4 (t_is : Nat → Int32) (t_doings : Nat → Int32) (t_doing : Nat → Int32) : Nat → Int32 → Nat → Int32 → Int32 → Int32 → Int32 → (Nat → Int32) → Int32 × Int32 × Int32 × Int32 × Int32 × (Nat → Int32)
  | 0, l1_8, k2_9, t_when_10, t_most_11, t_mostAt_12, t_hiss_13, t_row_14 => (l1_8, t_when_10, t_most_11, t_mostAt_12, t_hiss_13, t_row_14)
  | n_15 + 1, l1_8, k2_9, t_when_10, t_most_11, t_mostAt_12, t_hiss_13, t_row_14 => if 16 ≤ k2_9 then (l1_8, t_when_10, t_most_11, t_mostAt_12, t_hiss_13, t_row_14) else x_nm (F_X5_fresh t_is t_row_14 (nI k2_9)) fun u_23 => x_nm (F_X5_plan t_is t_doings t_doing u_23.2.2.2.2 u_23.1 u_23.2.1 u_23.2.2.1 u_23.2.2.2.1 0) fun u_30 => x_nm (α := Int32) (if 0 ≤ u_30.1 then 1 else 0) fun u_32 => x_nm (α := Int32) (F_X5_odds_L36 t_is k2_9 (4 + 1) u_32 0) fun u_34 => F_X5_odds_L4 t_is t_doings t_doing n_15 (l1_8 + u_34) (k2_9 + 1) u_30.1 u_30.2.1 u_30.2.2.1 u_30.2.2.2.1 u_30.2.2.2.2
def F_X5_odds (t_is : Nat → Int32) (t_doings : Nat → Int32) (t_doing : Nat → Int32) (t_row : Nat → Int32) (t_when : Int32) (t_most : Int32) (t_mostAt : Int32) (t_hiss : Int32) : Int32 × Int32 × Int32 × Int32 × Int32 × (Nat → Int32) :=
  x_nm (α := Int32 × Int32 × Int32 × Int32 × Int32 × (Nat → Int32)) (F_X5_odds_L4 t_is t_doings t_doing (16 + 1) 0 0 t_when t_most t_mostAt t_hiss t_row) fun u_7 => (u_7.1, u_7.2.1, u_7.2.2.1, u_7.2.2.2.1, u_7.2.2.2.2.1, u_7.2.2.2.2.2)
set_option maxHeartbeats 4000000 in
set_option maxRecDepth 100000 in
theorem m_X5_odds (l : Launch) (g : x_G) (tA tA_is tA_doings tA_doing tA_row tA_text tA_isKept tA_best tA_heats tA_orders tA_has tA_salt tA_crumbs : Nat) (t_length : Nat) (t_at : Nat) (t_begin : Nat) (t_told : Int32) (t_items : Int32) (t_when : Int32) (t_most : Int32) (t_mostAt : Int32) (t_hiss : Int32) (t_tests : Nat) (t_traced : Int64) (t_hasSkin : Int32) (t_hasBend : Int32) (t_is : Nat → Int32) (t_doings : Nat → Int32) (t_doing : Nat → Int32) (t_row : Nat → Int32) (h_0 : (t_doings 0).toNatClampNeg ≤ 12) (h_1 : t_doings 0 = nI (t_doings 0).toNatClampNeg) (h_2 : ∀ k : Nat, k < 12 → (t_doing (3 * k + 2)).toNatClampNeg ≤ 99 ∧ t_doing (3 * k + 2) = nI (t_doing (3 * k + 2)).toNatClampNeg) (h_3 : ¬ 8 * t_is 0 = 0) : x_MetI l yX5_odds wX5_odds rX5_odds g [.ref tA] [(tA, .inr (5, [.int (nI t_length), .ref tA_text, .int (nI t_at), .int (nI t_begin), .int t_told, .ref tA_is, .ref tA_doings, .ref tA_doing, .int t_items, .ref tA_row, .ref tA_isKept, .int t_when, .int t_most, .int t_mostAt, .int t_hiss, .ref tA_best, .ref tA_heats, .ref tA_orders, .ref tA_has, .int (nI t_tests), .ref tA_salt, .ref tA_crumbs, .long t_traced, .int t_hasSkin, .int t_hasBend])), (tA_is, .inl (g.2.1 0, 18, .inl t_is)), (tA_doings, .inl (g.2.1 0, 2, .inl t_doings)), (tA_doing, .inl (g.2.1 0, 72, .inl t_doing)), (tA_row, .inl (g.2.1 0, 80, .inl t_row))] (fun (r : Int32) (u : Int32 × Int32 × Int32 × Int32 × (Nat → Int32)) => (r, u) = F_X5_odds t_is t_doings t_doing t_row t_when t_most t_mostAt t_hiss) (fun u => [(tA, .inr (5, [.int (nI t_length), .ref tA_text, .int (nI t_at), .int (nI t_begin), .int t_told, .ref tA_is, .ref tA_doings, .ref tA_doing, .int t_items, .ref tA_row, .ref tA_isKept, .int u.1, .int u.2.1, .int u.2.2.1, .int u.2.2.2.1, .ref tA_best, .ref tA_heats, .ref tA_orders, .ref tA_has, .int (nI t_tests), .ref tA_salt, .ref tA_crumbs, .long t_traced, .int t_hasSkin, .int t_hasBend])), (tA_is, .inl (g.2.1 0, 18, .inl t_is)), (tA_doings, .inl (g.2.1 0, 2, .inl t_doings)), (tA_doing, .inl (g.2.1 0, 72, .inl t_doing)), (tA_row, .inl (g.2.1 0, 80, .inl u.2.2.2.2))]) := by
  refine x_startI (cc := cX5_odds) (maxL := 5) (by decide) rfl (Nat.le_of_ble_eq_true rfl) ?_
  intro p e s m args below meth c Q A ls H locs hx hb hml hown hts hK hX hP hD hS hA hl RET
  have hown : s.vm.findClass RX5 = some m.cls := hown
  have hl : lv_has ls 5 [(0, .ref tA)] := hl
  obtain ⟨o_0, hO⟩ : ∃ z, z = F_X5_odds t_is t_doings t_doing t_row t_when t_most t_mostAt t_hiss := ⟨_, rfl⟩
  have E := hO
  rw [F_X5_odds.eq_1] at E
  refine lv_iconst (v := 0) hx hb dX5_odds_0 (by decide) ?_
  refine lv_istore_n (lv' := [(1, .int 0), (0, .ref tA)]) hx hb dX5_odds_1 rfl hl (by decide) rfl (fun ls hl => ?_)
  refine lv_iconst (v := 0) hx hb dX5_odds_2 (by decide) ?_
  refine lv_istore_n (lv' := [(2, .int 0), (1, .int 0), (0, .ref tA)]) hx hb dX5_odds_3 rfl hl (by decide) rfl (fun ls hl => ?_)
  obtain ⟨o_7, E_7, E⟩ := x_nm_ex E
  have J_7 : ∀ (l1_1 : Int32) (t_when_2 : Int32) (t_most_3 : Int32) (t_mostAt_4 : Int32) (t_hiss_5 : Int32) (t_row_6 : Nat → Int32), o_7 = (l1_1, t_when_2, t_most_3, t_mostAt_4, t_hiss_5, t_row_6) → ∀ (H : Heap) (locs : List Loc) (ls : Array Slot), va_P g.1 vwCl [(tA, .inr (5, [.int (nI t_length), .ref tA_text, .int (nI t_at), .int (nI t_begin), .int t_told, .ref tA_is, .ref tA_doings, .ref tA_doing, .int t_items, .ref tA_row, .ref tA_isKept, .int t_when_2, .int t_most_3, .int t_mostAt_4, .int t_hiss_5, .ref tA_best, .ref tA_heats, .ref tA_orders, .ref tA_has, .int (nI t_tests), .ref tA_salt, .ref tA_crumbs, .long t_traced, .int t_hasSkin, .int t_hasBend])), (tA_is, .inl (g.2.1 0, 18, .inl t_is)), (tA_doings, .inl (g.2.1 0, 2, .inl t_doings)), (tA_doing, .inl (g.2.1 0, 72, .inl t_doing)), (tA_row, .inl (g.2.1 0, 80, .inl t_row_6))] H → va_D A [(tA, .inr (5, [.int (nI t_length), .ref tA_text, .int (nI t_at), .int (nI t_begin), .int t_told, .ref tA_is, .ref tA_doings, .ref tA_doing, .int t_items, .ref tA_row, .ref tA_isKept, .int t_when_2, .int t_most_3, .int t_mostAt_4, .int t_hiss_5, .ref tA_best, .ref tA_heats, .ref tA_orders, .ref tA_has, .int (nI t_tests), .ref tA_salt, .ref tA_crumbs, .long t_traced, .int t_hasSkin, .int t_hasBend])), (tA_is, .inl (g.2.1 0, 18, .inl t_is)), (tA_doings, .inl (g.2.1 0, 2, .inl t_doings)), (tA_doing, .inl (g.2.1 0, 72, .inl t_doing)), (tA_row, .inl (g.2.1 0, 80, .inl t_row_6))] → va_S A s.heap H locs → lv_has ls 5 [(1, .int l1_1)] → W p l e rX5_odds s m args below meth c H locs 0 0 Q (F0 m 91 ls []) := by
    intro l1_1 t_when_2 t_most_3 t_mostAt_4 t_hiss_5 t_row_6 hE  H locs ls hP hD hS hl
    try rw [hE] at E
    refine lv_iload_n hx hb dX5_odds_91 rfl (lv_at hl 0 rfl) ?_
    exact RET l1_1 (t_when_2, t_most_3, t_mostAt_4, t_hiss_5, t_row_6) H locs _ _ (E.symm.trans hO) rfl hP hD hS dX5_odds_92
  have E := E_7
  have L_15 : ∀ (n_15 : Nat) (l1_8 : Int32) (k2_9 : Nat) (t_when_10 : Int32) (t_most_11 : Int32) (t_mostAt_12 : Int32) (t_hiss_13 : Int32) (t_row_14 : Nat → Int32), (k2_9 ≤ 16) → ((16 - k2_9) < n_15) → o_7 = F_X5_odds_L4 t_is t_doings t_doing n_15 l1_8 k2_9 t_when_10 t_most_11 t_mostAt_12 t_hiss_13 t_row_14 → ∀ (H : Heap) (locs : List Loc) (ls : Array Slot), va_P g.1 vwCl [(tA, .inr (5, [.int (nI t_length), .ref tA_text, .int (nI t_at), .int (nI t_begin), .int t_told, .ref tA_is, .ref tA_doings, .ref tA_doing, .int t_items, .ref tA_row, .ref tA_isKept, .int t_when_10, .int t_most_11, .int t_mostAt_12, .int t_hiss_13, .ref tA_best, .ref tA_heats, .ref tA_orders, .ref tA_has, .int (nI t_tests), .ref tA_salt, .ref tA_crumbs, .long t_traced, .int t_hasSkin, .int t_hasBend])), (tA_is, .inl (g.2.1 0, 18, .inl t_is)), (tA_doings, .inl (g.2.1 0, 2, .inl t_doings)), (tA_doing, .inl (g.2.1 0, 72, .inl t_doing)), (tA_row, .inl (g.2.1 0, 80, .inl t_row_14))] H → va_D A [(tA, .inr (5, [.int (nI t_length), .ref tA_text, .int (nI t_at), .int (nI t_begin), .int t_told, .ref tA_is, .ref tA_doings, .ref tA_doing, .int t_items, .ref tA_row, .ref tA_isKept, .int t_when_10, .int t_most_11, .int t_mostAt_12, .int t_hiss_13, .ref tA_best, .ref tA_heats, .ref tA_orders, .ref tA_has, .int (nI t_tests), .ref tA_salt, .ref tA_crumbs, .long t_traced, .int t_hasSkin, .int t_hasBend])), (tA_is, .inl (g.2.1 0, 18, .inl t_is)), (tA_doings, .inl (g.2.1 0, 2, .inl t_doings)), (tA_doing, .inl (g.2.1 0, 72, .inl t_doing)), (tA_row, .inl (g.2.1 0, 80, .inl t_row_14))] → va_S A s.heap H locs → lv_has ls 5 [(0, .ref tA), (1, .int l1_8), (2, .int (nI k2_9))] → W p l e rX5_odds s m args below meth c H locs 0 0 Q (F0 m 4 ls []) := by
    intro n_15
    induction n_15 with
    | zero => intro l1_8 k2_9 t_when_10 t_most_11 t_mostAt_12 t_hiss_13 t_row_14 i_15_0 i_15_1; exact absurd i_15_1 (by omega)
    | succ n_15 ih_15 =>
      intro l1_8 k2_9 t_when_10 t_most_11 t_mostAt_12 t_hiss_13 t_row_14 i_15_0 i_15_1 E H locs ls hP hD hS hl
      rw [F_X5_odds_L4.eq_2] at E
      refine lv_iload_n hx hb dX5_odds_4 rfl (lv_at hl 2 rfl) ?_
      refine lv_bipush (v := 16) hx hb dX5_odds_5 (by decide) ?_
      refine x_icmp_ge (a := k2_9) (b := 16) (tgt := 91) hx hb (by omega) (by omega) dX5_odds_7 (by decide) (fun c_16 => ?_) (fun c_16 => ?_)
      · have E := x_pos E c_16
        exact J_7 l1_8 t_when_10 t_most_11 t_mostAt_12 t_hiss_13 t_row_14 E  H locs ls hP hD hS (lv_sub hl [1] rfl)
      · have E := x_neg E c_16
        refine lv_aload_n hx hb dX5_odds_10 rfl (lv_at hl 0 rfl) ?_
        refine lv_iload_n hx hb dX5_odds_11 rfl (lv_at hl 2 rfl) ?_
        refine x_callVv (w2 := fun u => [(tA, .inr (5, [.int (nI t_length), .ref tA_text, .int (nI t_at), .int (nI t_begin), .int t_told, .ref tA_is, .ref tA_doings, .ref tA_doing, .int t_items, .ref tA_row, .ref tA_isKept, .int u.1, .int u.2.1, .int u.2.2.1, .int u.2.2.2.1, .ref tA_best, .ref tA_heats, .ref tA_orders, .ref tA_has, .int (nI t_tests), .ref tA_salt, .ref tA_crumbs, .long t_traced, .int t_hasSkin, .int t_hasBend])), (tA_is, .inl (g.2.1 0, 18, .inl t_is)), (tA_doings, .inl (g.2.1 0, 2, .inl t_doings)), (tA_doing, .inl (g.2.1 0, 72, .inl t_doing)), (tA_row, .inl (g.2.1 0, 80, .inl u.2.2.2.2))]) (wr := [(tA_doings, .inl (g.2.1 0, 2, .inl t_doings)), (tA_doing, .inl (g.2.1 0, 72, .inl t_doing))]) [0, 1, 4] [2, 3] [2, 3, 0, 1, 4] 0 5 ⟨hx, hb, hml, hown, hts⟩ hK hX hP hD hS hA (m_X5_fresh l g tA tA_is tA_row tA_text tA_doings tA_doing tA_isKept tA_best tA_heats tA_orders tA_has tA_salt tA_crumbs t_length t_at t_begin t_told t_items t_when_10 t_most_11 t_mostAt_12 t_hiss_13 t_tests t_traced t_hasSkin t_hasBend t_is t_row_14 (nI k2_9)) (cwV 1 hts (x_gV kw_608 kw_609 kw_610 kw_5 kw_611) rfl rfl rfl vX5_fresh ⟨Nat.le_of_ble_eq_true rfl, Nat.le_of_ble_eq_true rfl⟩) rfl rfl rfl rfl rfl rfl rfl (by decide) (fun _ => rfl) rfl rfl hl.1 rfl (Nat.le_of_ble_eq_true rfl) dX5_odds_12 ⟨Nat.zero_le _, Nat.zero_le _⟩ (fun u H locs hw_22 hP hD hS => ?_)
        obtain ⟨t_when_17, t_most_18, t_mostAt_19, t_hiss_20, t_row_21⟩ := u
        have hP : va_P g.1 vwCl [(tA, .inr (5, [.int (nI t_length), .ref tA_text, .int (nI t_at), .int (nI t_begin), .int t_told, .ref tA_is, .ref tA_doings, .ref tA_doing, .int t_items, .ref tA_row, .ref tA_isKept, .int t_when_17, .int t_most_18, .int t_mostAt_19, .int t_hiss_20, .ref tA_best, .ref tA_heats, .ref tA_orders, .ref tA_has, .int (nI t_tests), .ref tA_salt, .ref tA_crumbs, .long t_traced, .int t_hasSkin, .int t_hasBend])), (tA_is, .inl (g.2.1 0, 18, .inl t_is)), (tA_doings, .inl (g.2.1 0, 2, .inl t_doings)), (tA_doing, .inl (g.2.1 0, 72, .inl t_doing)), (tA_row, .inl (g.2.1 0, 80, .inl t_row_21))] H := hP
        have hD : va_D A [(tA, .inr (5, [.int (nI t_length), .ref tA_text, .int (nI t_at), .int (nI t_begin), .int t_told, .ref tA_is, .ref tA_doings, .ref tA_doing, .int t_items, .ref tA_row, .ref tA_isKept, .int t_when_17, .int t_most_18, .int t_mostAt_19, .int t_hiss_20, .ref tA_best, .ref tA_heats, .ref tA_orders, .ref tA_has, .int (nI t_tests), .ref tA_salt, .ref tA_crumbs, .long t_traced, .int t_hasSkin, .int t_hasBend])), (tA_is, .inl (g.2.1 0, 18, .inl t_is)), (tA_doings, .inl (g.2.1 0, 2, .inl t_doings)), (tA_doing, .inl (g.2.1 0, 72, .inl t_doing)), (tA_row, .inl (g.2.1 0, 80, .inl t_row_21))] := hD
        have E := x_nm_eq E hw_22
        refine lv_aload_n hx hb dX5_odds_15 rfl (lv_at hl 0 rfl) ?_
        refine lv_iconst (v := 0) hx hb dX5_odds_16 (by decide) ?_
        refine x_callVv (w2 := fun u => [(tA, .inr (5, [.int (nI t_length), .ref tA_text, .int (nI t_at), .int (nI t_begin), .int t_told, .ref tA_is, .ref tA_doings, .ref tA_doing, .int t_items, .ref tA_row, .ref tA_isKept, .int u.1, .int u.2.1, .int u.2.2.1, .int u.2.2.2.1, .ref tA_best, .ref tA_heats, .ref tA_orders, .ref tA_has, .int (nI t_tests), .ref tA_salt, .ref tA_crumbs, .long t_traced, .int t_hasSkin, .int t_hasBend])), (tA_is, .inl (g.2.1 0, 18, .inl t_is)), (tA_doings, .inl (g.2.1 0, 2, .inl t_doings)), (tA_doing, .inl (g.2.1 0, 72, .inl t_doing)), (tA_row, .inl (g.2.1 0, 80, .inl u.2.2.2.2))]) (wr := []) [0, 1, 2, 3, 4] [] [0, 1, 2, 3, 4] 0 5 ⟨hx, hb, hml, hown, hts⟩ hK hX hP hD hS hA (m_X5_plan l g tA tA_is tA_doings tA_doing tA_row tA_text tA_isKept tA_best tA_heats tA_orders tA_has tA_salt tA_crumbs t_length t_at t_begin t_told t_items t_when_17 t_most_18 t_mostAt_19 t_hiss_20 t_tests t_traced t_hasSkin t_hasBend t_is t_doings t_doing t_row_21 0 (by first | assumption | omega | exact x_e8 (by assumption) (by assumption)) (by first | assumption | omega | exact x_e8 (by assumption) (by assumption)) (by first | assumption | omega | exact x_e8 (by assumption) (by assumption)) (by first | assumption | omega | exact x_e8 (by assumption) (by assumption))) (cwV 1 hts (x_gV kw_612 kw_613 kw_614 kw_5 kw_615) rfl rfl rfl vX5_plan ⟨Nat.le_of_ble_eq_true rfl, Nat.le_of_ble_eq_true rfl⟩) rfl rfl rfl rfl rfl rfl rfl (by decide) (fun _ => rfl) rfl rfl hl.1 rfl (Nat.le_of_ble_eq_true rfl) dX5_odds_17 ⟨Nat.zero_le _, Nat.zero_le _⟩ (fun u H locs hw_29 hP hD hS => ?_)
        obtain ⟨t_when_24, t_most_25, t_mostAt_26, t_hiss_27, t_row_28⟩ := u
        have hP : va_P g.1 vwCl [(tA, .inr (5, [.int (nI t_length), .ref tA_text, .int (nI t_at), .int (nI t_begin), .int t_told, .ref tA_is, .ref tA_doings, .ref tA_doing, .int t_items, .ref tA_row, .ref tA_isKept, .int t_when_24, .int t_most_25, .int t_mostAt_26, .int t_hiss_27, .ref tA_best, .ref tA_heats, .ref tA_orders, .ref tA_has, .int (nI t_tests), .ref tA_salt, .ref tA_crumbs, .long t_traced, .int t_hasSkin, .int t_hasBend])), (tA_is, .inl (g.2.1 0, 18, .inl t_is)), (tA_doings, .inl (g.2.1 0, 2, .inl t_doings)), (tA_doing, .inl (g.2.1 0, 72, .inl t_doing)), (tA_row, .inl (g.2.1 0, 80, .inl t_row_28))] H := hP
        have hD : va_D A [(tA, .inr (5, [.int (nI t_length), .ref tA_text, .int (nI t_at), .int (nI t_begin), .int t_told, .ref tA_is, .ref tA_doings, .ref tA_doing, .int t_items, .ref tA_row, .ref tA_isKept, .int t_when_24, .int t_most_25, .int t_mostAt_26, .int t_hiss_27, .ref tA_best, .ref tA_heats, .ref tA_orders, .ref tA_has, .int (nI t_tests), .ref tA_salt, .ref tA_crumbs, .long t_traced, .int t_hasSkin, .int t_hasBend])), (tA_is, .inl (g.2.1 0, 18, .inl t_is)), (tA_doings, .inl (g.2.1 0, 2, .inl t_doings)), (tA_doing, .inl (g.2.1 0, 72, .inl t_doing)), (tA_row, .inl (g.2.1 0, 80, .inl t_row_28))] := hD
        have E := x_nm_eq E hw_29
        refine lv_aload_n hx hb dX5_odds_20 rfl (lv_at hl 0 rfl) ?_
        refine va_get (ci := 5) (v := .int t_when_24) (C := RX5) (T := TX5) (N := 25) hx hb hts inlX5 hown hK.1 hP 0 rfl rfl 11 (by decide) (hts _ kw_99) (fun _ h9 => h9) rfl dX5_odds_21 ?_
        obtain ⟨o_32, E_32, E⟩ := x_nm_ex E
        have J_32 : ∀ (v_31 : Int32), o_32 = v_31 → ∀ (H : Heap) (locs : List Loc) (ls : Array Slot), va_P g.1 vwCl [(tA, .inr (5, [.int (nI t_length), .ref tA_text, .int (nI t_at), .int (nI t_begin), .int t_told, .ref tA_is, .ref tA_doings, .ref tA_doing, .int t_items, .ref tA_row, .ref tA_isKept, .int t_when_24, .int t_most_25, .int t_mostAt_26, .int t_hiss_27, .ref tA_best, .ref tA_heats, .ref tA_orders, .ref tA_has, .int (nI t_tests), .ref tA_salt, .ref tA_crumbs, .long t_traced, .int t_hasSkin, .int t_hasBend])), (tA_is, .inl (g.2.1 0, 18, .inl t_is)), (tA_doings, .inl (g.2.1 0, 2, .inl t_doings)), (tA_doing, .inl (g.2.1 0, 72, .inl t_doing)), (tA_row, .inl (g.2.1 0, 80, .inl t_row_28))] H → va_D A [(tA, .inr (5, [.int (nI t_length), .ref tA_text, .int (nI t_at), .int (nI t_begin), .int t_told, .ref tA_is, .ref tA_doings, .ref tA_doing, .int t_items, .ref tA_row, .ref tA_isKept, .int t_when_24, .int t_most_25, .int t_mostAt_26, .int t_hiss_27, .ref tA_best, .ref tA_heats, .ref tA_orders, .ref tA_has, .int (nI t_tests), .ref tA_salt, .ref tA_crumbs, .long t_traced, .int t_hasSkin, .int t_hasBend])), (tA_is, .inl (g.2.1 0, 18, .inl t_is)), (tA_doings, .inl (g.2.1 0, 2, .inl t_doings)), (tA_doing, .inl (g.2.1 0, 72, .inl t_doing)), (tA_row, .inl (g.2.1 0, 80, .inl t_row_28))] → va_S A s.heap H locs → lv_has ls 5 [(0, .ref tA), (1, .int l1_8), (2, .int (nI k2_9))] → W p l e rX5_odds s m args below meth c H locs 0 0 Q (F0 m 32 ls [.int v_31]) := by
          intro v_31 hE  H locs ls hP hD hS hl
          try rw [hE] at E
          refine lv_istore_n (lv' := [(3, .int v_31), (0, .ref tA), (1, .int l1_8), (2, .int (nI k2_9))]) hx hb dX5_odds_32 rfl hl (by decide) rfl (fun ls hl => ?_)
          refine lv_iconst (v := 0) hx hb dX5_odds_33 (by decide) ?_
          refine lv_istore (lv' := [(4, .int 0), (3, .int v_31), (0, .ref tA), (1, .int l1_8), (2, .int (nI k2_9))]) hx hb dX5_odds_34 hl (by decide) rfl (fun ls hl => ?_)
          obtain ⟨o_34, E_34, E⟩ := x_nm_ex E
          have J_34 : ∀ (l3_33 : Int32), o_34 = l3_33 → ∀ (H : Heap) (locs : List Loc) (ls : Array Slot), va_P g.1 vwCl [(tA, .inr (5, [.int (nI t_length), .ref tA_text, .int (nI t_at), .int (nI t_begin), .int t_told, .ref tA_is, .ref tA_doings, .ref tA_doing, .int t_items, .ref tA_row, .ref tA_isKept, .int t_when_24, .int t_most_25, .int t_mostAt_26, .int t_hiss_27, .ref tA_best, .ref tA_heats, .ref tA_orders, .ref tA_has, .int (nI t_tests), .ref tA_salt, .ref tA_crumbs, .long t_traced, .int t_hasSkin, .int t_hasBend])), (tA_is, .inl (g.2.1 0, 18, .inl t_is)), (tA_doings, .inl (g.2.1 0, 2, .inl t_doings)), (tA_doing, .inl (g.2.1 0, 72, .inl t_doing)), (tA_row, .inl (g.2.1 0, 80, .inl t_row_28))] H → va_D A [(tA, .inr (5, [.int (nI t_length), .ref tA_text, .int (nI t_at), .int (nI t_begin), .int t_told, .ref tA_is, .ref tA_doings, .ref tA_doing, .int t_items, .ref tA_row, .ref tA_isKept, .int t_when_24, .int t_most_25, .int t_mostAt_26, .int t_hiss_27, .ref tA_best, .ref tA_heats, .ref tA_orders, .ref tA_has, .int (nI t_tests), .ref tA_salt, .ref tA_crumbs, .long t_traced, .int t_hasSkin, .int t_hasBend])), (tA_is, .inl (g.2.1 0, 18, .inl t_is)), (tA_doings, .inl (g.2.1 0, 2, .inl t_doings)), (tA_doing, .inl (g.2.1 0, 72, .inl t_doing)), (tA_row, .inl (g.2.1 0, 80, .inl t_row_28))] → va_S A s.heap H locs → lv_has ls 5 [(0, .ref tA), (1, .int l1_8), (2, .int (nI k2_9)), (3, .int l3_33)] → W p l e rX5_odds s m args below meth c H locs 0 0 Q (F0 m 81 ls []) := by
            intro l3_33 hE  H locs ls hP hD hS hl
            try rw [hE] at E
            refine lv_iload_n hx hb dX5_odds_81 rfl (lv_at hl 1 rfl) ?_
            refine lv_iload_n hx hb dX5_odds_82 rfl (lv_at hl 3 rfl) ?_
            refine lv_iadd hx hb dX5_odds_83 ?_
            refine lv_istore_n (lv' := [(1, .int (l1_8 + l3_33)), (0, .ref tA), (2, .int (nI k2_9)), (3, .int l3_33)]) hx hb dX5_odds_84 rfl hl (by decide) rfl (fun ls hl => ?_)
            refine lv_iinc (v := nI (k2_9 + 1)) (lv' := [(2, .int (nI (k2_9 + 1))), (1, .int (l1_8 + l3_33)), (0, .ref tA), (3, .int l3_33)]) hx hb dX5_odds_85 hl (k := 2) rfl (nI_1 k2_9) (by decide) rfl (fun ls hl => ?_)
            refine lv_goto (tgt := 4) hx hb dX5_odds_88 (by decide) ?_
            exact ih_15 (l1_8 + l3_33) (k2_9 + 1) t_when_24 t_most_25 t_mostAt_26 t_hiss_27 t_row_28 (by first | omega | assumption | exact Eq.trans (by assumption) (by assumption)) (by omega) E H locs ls hP hD hS (lv_sub hl [2, 1, 0] rfl)
          have E := E_34
          have L_37 : ∀ (n_37 : Nat) (l3_35 : Int32) (k4_36 : Nat), (k4_36 ≤ 4) → ((4 - k4_36) < n_37) → o_34 = F_X5_odds_L36 t_is k2_9 n_37 l3_35 k4_36 → ∀ (H : Heap) (locs : List Loc) (ls : Array Slot), va_P g.1 vwCl [(tA, .inr (5, [.int (nI t_length), .ref tA_text, .int (nI t_at), .int (nI t_begin), .int t_told, .ref tA_is, .ref tA_doings, .ref tA_doing, .int t_items, .ref tA_row, .ref tA_isKept, .int t_when_24, .int t_most_25, .int t_mostAt_26, .int t_hiss_27, .ref tA_best, .ref tA_heats, .ref tA_orders, .ref tA_has, .int (nI t_tests), .ref tA_salt, .ref tA_crumbs, .long t_traced, .int t_hasSkin, .int t_hasBend])), (tA_is, .inl (g.2.1 0, 18, .inl t_is)), (tA_doings, .inl (g.2.1 0, 2, .inl t_doings)), (tA_doing, .inl (g.2.1 0, 72, .inl t_doing)), (tA_row, .inl (g.2.1 0, 80, .inl t_row_28))] H → va_D A [(tA, .inr (5, [.int (nI t_length), .ref tA_text, .int (nI t_at), .int (nI t_begin), .int t_told, .ref tA_is, .ref tA_doings, .ref tA_doing, .int t_items, .ref tA_row, .ref tA_isKept, .int t_when_24, .int t_most_25, .int t_mostAt_26, .int t_hiss_27, .ref tA_best, .ref tA_heats, .ref tA_orders, .ref tA_has, .int (nI t_tests), .ref tA_salt, .ref tA_crumbs, .long t_traced, .int t_hasSkin, .int t_hasBend])), (tA_is, .inl (g.2.1 0, 18, .inl t_is)), (tA_doings, .inl (g.2.1 0, 2, .inl t_doings)), (tA_doing, .inl (g.2.1 0, 72, .inl t_doing)), (tA_row, .inl (g.2.1 0, 80, .inl t_row_28))] → va_S A s.heap H locs → lv_has ls 5 [(0, .ref tA), (1, .int l1_8), (2, .int (nI k2_9)), (3, .int l3_35), (4, .int (nI k4_36))] → W p l e rX5_odds s m args below meth c H locs 0 0 Q (F0 m 36 ls []) := by
            intro n_37
            induction n_37 with
            | zero => intro l3_35 k4_36 i_37_0 i_37_1; exact absurd i_37_1 (by omega)
            | succ n_37 ih_37 =>
              intro l3_35 k4_36 i_37_0 i_37_1 E H locs ls hP hD hS hl
              rw [F_X5_odds_L36.eq_2] at E
              refine lv_iload hx hb dX5_odds_36 (lv_at hl 4 rfl) ?_
              refine lv_iconst (v := 4) hx hb dX5_odds_38 (by decide) ?_
              refine x_icmp_ge (a := k4_36) (b := 4) (tgt := 81) hx hb (by omega) (by omega) dX5_odds_39 (by decide) (fun c_38 => ?_) (fun c_38 => ?_)
              · have E := x_pos E c_38
                exact J_34 l3_35 E  H locs ls hP hD hS (lv_sub hl [0, 1, 2, 3] rfl)
              · have E := x_neg E c_38
                refine lv_iload_n hx hb dX5_odds_42 rfl (lv_at hl 3 rfl) ?_
                refine lv_iload_n hx hb dX5_odds_43 rfl (lv_at hl 2 rfl) ?_
                refine lv_iload hx hb dX5_odds_44 (lv_at hl 4 rfl) ?_
                refine lv_ishr hx hb dX5_odds_46 ?_
                refine lv_iconst (v := 1) hx hb dX5_odds_47 (by decide) ?_
                refine lv_iand hx hb dX5_odds_48 ?_
                refine lv_iconst (v := 1) hx hb dX5_odds_49 (by decide) ?_
                obtain ⟨o_40, E_40, E⟩ := x_nm_ex E
                have J_40 : ∀ (v_39 : Int32), o_40 = v_39 → ∀ (H : Heap) (locs : List Loc) (ls : Array Slot), va_P g.1 vwCl [(tA, .inr (5, [.int (nI t_length), .ref tA_text, .int (nI t_at), .int (nI t_begin), .int t_told, .ref tA_is, .ref tA_doings, .ref tA_doing, .int t_items, .ref tA_row, .ref tA_isKept, .int t_when_24, .int t_most_25, .int t_mostAt_26, .int t_hiss_27, .ref tA_best, .ref tA_heats, .ref tA_orders, .ref tA_has, .int (nI t_tests), .ref tA_salt, .ref tA_crumbs, .long t_traced, .int t_hasSkin, .int t_hasBend])), (tA_is, .inl (g.2.1 0, 18, .inl t_is)), (tA_doings, .inl (g.2.1 0, 2, .inl t_doings)), (tA_doing, .inl (g.2.1 0, 72, .inl t_doing)), (tA_row, .inl (g.2.1 0, 80, .inl t_row_28))] H → va_D A [(tA, .inr (5, [.int (nI t_length), .ref tA_text, .int (nI t_at), .int (nI t_begin), .int t_told, .ref tA_is, .ref tA_doings, .ref tA_doing, .int t_items, .ref tA_row, .ref tA_isKept, .int t_when_24, .int t_most_25, .int t_mostAt_26, .int t_hiss_27, .ref tA_best, .ref tA_heats, .ref tA_orders, .ref tA_has, .int (nI t_tests), .ref tA_salt, .ref tA_crumbs, .long t_traced, .int t_hasSkin, .int t_hasBend])), (tA_is, .inl (g.2.1 0, 18, .inl t_is)), (tA_doings, .inl (g.2.1 0, 2, .inl t_doings)), (tA_doing, .inl (g.2.1 0, 72, .inl t_doing)), (tA_row, .inl (g.2.1 0, 80, .inl t_row_28))] → va_S A s.heap H locs → lv_has ls 5 [(0, .ref tA), (1, .int l1_8), (2, .int (nI k2_9)), (4, .int (nI k4_36))] → W p l e rX5_odds s m args below meth c H locs 0 0 Q (F0 m 73 ls [.int v_39, .int l3_35]) := by
                  intro v_39 hE  H locs ls hP hD hS hl
                  try rw [hE] at E
                  refine lv_imul hx hb dX5_odds_73 ?_
                  refine lv_istore_n (lv' := [(3, .int (l3_35 * v_39)), (0, .ref tA), (1, .int l1_8), (2, .int (nI k2_9)), (4, .int (nI k4_36))]) hx hb dX5_odds_74 rfl hl (by decide) rfl (fun ls hl => ?_)
                  refine lv_iinc (v := nI (k4_36 + 1)) (lv' := [(4, .int (nI (k4_36 + 1))), (3, .int (l3_35 * v_39)), (0, .ref tA), (1, .int l1_8), (2, .int (nI k2_9))]) hx hb dX5_odds_75 hl (k := 4) rfl (nI_1 k4_36) (by decide) rfl (fun ls hl => ?_)
                  refine lv_goto (tgt := 36) hx hb dX5_odds_78 (by decide) ?_
                  exact ih_37 (l3_35 * v_39) (k4_36 + 1) (by first | omega | assumption | exact Eq.trans (by assumption) (by assumption)) (by omega) E H locs ls hP hD hS (lv_sub hl [2, 3, 4, 1, 0] rfl)
                have E := E_40
                refine x_icmp_neI (tgt := 63) hx hb dX5_odds_50 (by decide) (fun c_41 => ?_) (fun c_41 => ?_)
                · have E := x_neg E c_41
                  refine lv_bipush (v := 10) hx hb dX5_odds_63 (by decide) ?_
                  refine lv_aload_n hx hb dX5_odds_65 rfl (lv_at hl 0 rfl) ?_
                  refine va_get (ci := 5) (v := .ref tA_is) (C := RX5) (T := TX5) (N := 25) hx hb hts inlX5 hown hK.1 hP 0 rfl rfl 5 (by decide) (hts _ kw_94) (fun _ h9 => h9) rfl dX5_odds_66 ?_
                  refine lv_bipush (v := 6) hx hb dX5_odds_69 (by decide) ?_
                  refine x_ialdN hx hb hK hP 1 6 rfl (by omega) (by decide) dX5_odds_71 ?_
                  refine lv_isub hx hb dX5_odds_72 ?_
                  exact J_40 (10 - (t_is 6)) E  H locs ls hP hD hS (lv_sub hl [0, 1, 2, 4] rfl)
                · have E := x_pos E c_41
                  refine lv_aload_n hx hb dX5_odds_53 rfl (lv_at hl 0 rfl) ?_
                  refine va_get (ci := 5) (v := .ref tA_is) (C := RX5) (T := TX5) (N := 25) hx hb hts inlX5 hown hK.1 hP 0 rfl rfl 5 (by decide) (hts _ kw_94) (fun _ h9 => h9) rfl dX5_odds_54 ?_
                  refine lv_bipush (v := 6) hx hb dX5_odds_57 (by decide) ?_
                  refine x_ialdN hx hb hK hP 1 6 rfl (by omega) (by decide) dX5_odds_59 ?_
                  refine lv_goto (tgt := 73) hx hb dX5_odds_60 (by decide) ?_
                  exact J_40 (t_is 6) E  H locs ls hP hD hS (lv_sub hl [0, 1, 2, 4] rfl)
          exact L_37 (4 + 1) v_31 0 (by first | omega | assumption | rfl) (by omega) E H locs ls hP hD hS (lv_sub hl [2, 3, 4, 1, 0] rfl)
        have E := E_32
        refine lv_if_ge (tgt := 31) hx hb dX5_odds_24 (by decide) (fun c_42 => ?_) (fun c_42 => ?_)
        · have E := x_pos E c_42
          refine lv_iconst (v := 1) hx hb dX5_odds_31 (by decide) ?_
          exact J_32 1 E  H locs ls hP hD hS (lv_sub hl [0, 1, 2] rfl)
        · have E := x_neg E c_42
          refine lv_iconst (v := 0) hx hb dX5_odds_27 (by decide) ?_
          refine lv_goto (tgt := 32) hx hb dX5_odds_28 (by decide) ?_
          exact J_32 0 E  H locs ls hP hD hS (lv_sub hl [0, 1, 2] rfl)
  exact L_15 (16 + 1) 0 0 t_when t_most t_mostAt t_hiss t_row (by first | omega | assumption | rfl) (by omega) E H locs ls hP hD hS (lv_sub hl [2, 1, 0] rfl)
abbrev rX5_holdsAll : Room := { frames := 4, cells := 0, slots := 0, locals := 106 }
theorem vX5_holdsAll : yX5_holdsAll.cls = RX5 ∧ yX5_holdsAll.cls ≠ "java/lang/invoke/MethodHandle" ∧ yX5_holdsAll.cls ≠ "java/lang/invoke/VarHandle" ∧ (parseMethodDescriptor yX5_holdsAll.desc).map (fun d => d.parameters.length) = some 2 := by decide +kernel
abbrev wX5_holdsAll : List Cond := Cond.code yX5_holdsAll cX5_holdsAll 6 (some .boolean) :: wsL_law
def F_X5_holdsAll_L31 (t_is : Nat → Int32) (a2 : Int32) : Nat → Nat → Int32 → Int32 → Int32 → Int32 → (Nat → Int32) → Int32 × Int32 × Int32 × Int32 × (Nat → Int32)
  | 0, k5_44, t_when_45, t_most_46, t_mostAt_47, t_hiss_48, t_row_49 => (t_when_45, t_most_46, t_mostAt_47, t_hiss_48, t_row_49)
  | n_50 + 1, k5_44, t_when_45, t_most_46, t_mostAt_47, t_hiss_48, t_row_49 => if 60 ≤ k5_44 then (t_when_45, t_most_46, t_mostAt_47, t_hiss_48, t_row_49) else if a2 ≤ 0 then (t_when_45, t_most_46, t_mostAt_47, t_hiss_48, t_row_49) else x_nm (F_X5_tried t_is t_row_49 t_when_45 t_most_46 t_mostAt_47 t_hiss_48 a2 1) fun u_59 => F_X5_holdsAll_L31 t_is a2 n_50 (k5_44 + 1) u_59.1 u_59.2.1 u_59.2.2.1 u_59.2.2.2.1 u_59.2.2.2.2
def F_X5_holdsAll_L5 (t_is : Nat → Int32) (t_doings : Nat → Int32) (t_doing : Nat → Int32) (a1 : Int32) (a2 : Int32) : Nat → Int32 → Nat → Int32 → Int32 → Int32 → Int32 → (Nat → Int32) → Int32 × Int32 × Int32 × Int32 × Int32 × (Nat → Int32)
  | 0, l3_8, k4_9, t_when_10, t_most_11, t_mostAt_12, t_hiss_13, t_row_14 => (l3_8, t_when_10, t_most_11, t_mostAt_12, t_hiss_13, t_row_14)
  | n_15 + 1, l3_8, k4_9, t_when_10, t_most_11, t_mostAt_12, t_hiss_13, t_row_14 => if 16 ≤ k4_9 then (l3_8, t_when_10, t_most_11, t_mostAt_12, t_hiss_13, t_row_14) else if l3_8 = 0 then (l3_8, t_when_10, t_most_11, t_mostAt_12, t_hiss_13, t_row_14) else x_nm (F_X5_fresh t_is t_row_14 (nI k4_9)) fun u_24 => x_nm (F_X5_pricked u_24.2.2.2.2 3 a1) fun t_row_25 => x_nm (α := Int32 × Int32 × Int32 × Int32 × (Nat → Int32)) (F_X5_holdsAll_L31 t_is a2 (60 + 1) 0 u_24.1 u_24.2.1 u_24.2.2.1 u_24.2.2.2.1 t_row_25) fun u_33 => x_nm (F_X5_plan t_is t_doings t_doing u_33.2.2.2.2 u_33.1 u_33.2.1 u_33.2.2.1 u_33.2.2.2.1 0) fun u_40 => x_nm (α := Int32) (if 0 ≤ u_40.1 then 0 else 1) fun u_42 => F_X5_holdsAll_L5 t_is t_doings t_doing a1 a2 n_15 u_42 (k4_9 + 1) u_40.1 u_40.2.1 u_40.2.2.1 u_40.2.2.2.1 u_40.2.2.2.2
def F_X5_holdsAll (t_is : Nat → Int32) (t_doings : Nat → Int32) (t_doing : Nat → Int32) (t_row : Nat → Int32) (t_when : Int32) (t_most : Int32) (t_mostAt : Int32) (t_hiss : Int32) (a1 : Int32) (a2 : Int32) : Int32 × Int32 × Int32 × Int32 × Int32 × (Nat → Int32) :=
  x_nm (α := Int32 × Int32 × Int32 × Int32 × Int32 × (Nat → Int32)) (F_X5_holdsAll_L5 t_is t_doings t_doing a1 a2 (16 + 1) 1 0 t_when t_most t_mostAt t_hiss t_row) fun u_7 => (u_7.1, u_7.2.1, u_7.2.2.1, u_7.2.2.2.1, u_7.2.2.2.2.1, u_7.2.2.2.2.2)
set_option maxHeartbeats 4000000 in
set_option maxRecDepth 100000 in
theorem m_X5_holdsAll (l : Launch) (g : x_G) (tA tA_is tA_doings tA_doing tA_row tA_text tA_isKept tA_best tA_heats tA_orders tA_has tA_salt tA_crumbs : Nat) (t_length : Nat) (t_at : Nat) (t_begin : Nat) (t_told : Int32) (t_items : Int32) (t_when : Int32) (t_most : Int32) (t_mostAt : Int32) (t_hiss : Int32) (t_tests : Nat) (t_traced : Int64) (t_hasSkin : Int32) (t_hasBend : Int32) (t_is : Nat → Int32) (t_doings : Nat → Int32) (t_doing : Nat → Int32) (t_row : Nat → Int32) (a1 : Int32) (a2 : Int32) (h_0 : (t_doings 0).toNatClampNeg ≤ 12) (h_1 : t_doings 0 = nI (t_doings 0).toNatClampNeg) (h_2 : ∀ k : Nat, k < 12 → (t_doing (3 * k + 2)).toNatClampNeg ≤ 99 ∧ t_doing (3 * k + 2) = nI (t_doing (3 * k + 2)).toNatClampNeg) (h_3 : ¬ 8 * t_is 0 = 0) : x_MetI l yX5_holdsAll wX5_holdsAll rX5_holdsAll g [.ref tA, .int a1, .int a2] [(tA, .inr (5, [.int (nI t_length), .ref tA_text, .int (nI t_at), .int (nI t_begin), .int t_told, .ref tA_is, .ref tA_doings, .ref tA_doing, .int t_items, .ref tA_row, .ref tA_isKept, .int t_when, .int t_most, .int t_mostAt, .int t_hiss, .ref tA_best, .ref tA_heats, .ref tA_orders, .ref tA_has, .int (nI t_tests), .ref tA_salt, .ref tA_crumbs, .long t_traced, .int t_hasSkin, .int t_hasBend])), (tA_is, .inl (g.2.1 0, 18, .inl t_is)), (tA_doings, .inl (g.2.1 0, 2, .inl t_doings)), (tA_doing, .inl (g.2.1 0, 72, .inl t_doing)), (tA_row, .inl (g.2.1 0, 80, .inl t_row))] (fun (r : Int32) (u : Int32 × Int32 × Int32 × Int32 × (Nat → Int32)) => ((r, u) = F_X5_holdsAll t_is t_doings t_doing t_row t_when t_most t_mostAt t_hiss a1 a2) ∧ (r = 0 ∨ r = 1)) (fun u => [(tA, .inr (5, [.int (nI t_length), .ref tA_text, .int (nI t_at), .int (nI t_begin), .int t_told, .ref tA_is, .ref tA_doings, .ref tA_doing, .int t_items, .ref tA_row, .ref tA_isKept, .int u.1, .int u.2.1, .int u.2.2.1, .int u.2.2.2.1, .ref tA_best, .ref tA_heats, .ref tA_orders, .ref tA_has, .int (nI t_tests), .ref tA_salt, .ref tA_crumbs, .long t_traced, .int t_hasSkin, .int t_hasBend])), (tA_is, .inl (g.2.1 0, 18, .inl t_is)), (tA_doings, .inl (g.2.1 0, 2, .inl t_doings)), (tA_doing, .inl (g.2.1 0, 72, .inl t_doing)), (tA_row, .inl (g.2.1 0, 80, .inl u.2.2.2.2))]) := by
  refine x_startI (cc := cX5_holdsAll) (maxL := 6) (by decide) rfl (Nat.le_of_ble_eq_true rfl) ?_
  intro p e s m args below meth c Q A ls H locs hx hb hml hown hts hK hX hP hD hS hA hl RET
  have hown : s.vm.findClass RX5 = some m.cls := hown
  have hl : lv_has ls 6 [(0, .ref tA), (1, .int a1), (2, .int a2)] := hl
  obtain ⟨o_0, hO⟩ : ∃ z, z = F_X5_holdsAll t_is t_doings t_doing t_row t_when t_most t_mostAt t_hiss a1 a2 := ⟨_, rfl⟩
  have E := hO
  rw [F_X5_holdsAll.eq_1] at E
  refine lv_iconst (v := 1) hx hb dX5_holdsAll_0 (by decide) ?_
  refine lv_istore_n (lv' := [(3, .int 1), (0, .ref tA), (1, .int a1), (2, .int a2)]) hx hb dX5_holdsAll_1 rfl hl (by decide) rfl (fun ls hl => ?_)
  refine lv_iconst (v := 0) hx hb dX5_holdsAll_2 (by decide) ?_
  refine lv_istore (lv' := [(4, .int 0), (3, .int 1), (0, .ref tA), (1, .int a1), (2, .int a2)]) hx hb dX5_holdsAll_3 hl (by decide) rfl (fun ls hl => ?_)
  obtain ⟨o_7, E_7, E⟩ := x_nm_ex E
  have J_7 : ∀ (l3_1 : Int32) (t_when_2 : Int32) (t_most_3 : Int32) (t_mostAt_4 : Int32) (t_hiss_5 : Int32) (t_row_6 : Nat → Int32), o_7 = (l3_1, t_when_2, t_most_3, t_mostAt_4, t_hiss_5, t_row_6) → (l3_1 = 0 ∨ l3_1 = 1) → ∀ (H : Heap) (locs : List Loc) (ls : Array Slot), va_P g.1 vwCl [(tA, .inr (5, [.int (nI t_length), .ref tA_text, .int (nI t_at), .int (nI t_begin), .int t_told, .ref tA_is, .ref tA_doings, .ref tA_doing, .int t_items, .ref tA_row, .ref tA_isKept, .int t_when_2, .int t_most_3, .int t_mostAt_4, .int t_hiss_5, .ref tA_best, .ref tA_heats, .ref tA_orders, .ref tA_has, .int (nI t_tests), .ref tA_salt, .ref tA_crumbs, .long t_traced, .int t_hasSkin, .int t_hasBend])), (tA_is, .inl (g.2.1 0, 18, .inl t_is)), (tA_doings, .inl (g.2.1 0, 2, .inl t_doings)), (tA_doing, .inl (g.2.1 0, 72, .inl t_doing)), (tA_row, .inl (g.2.1 0, 80, .inl t_row_6))] H → va_D A [(tA, .inr (5, [.int (nI t_length), .ref tA_text, .int (nI t_at), .int (nI t_begin), .int t_told, .ref tA_is, .ref tA_doings, .ref tA_doing, .int t_items, .ref tA_row, .ref tA_isKept, .int t_when_2, .int t_most_3, .int t_mostAt_4, .int t_hiss_5, .ref tA_best, .ref tA_heats, .ref tA_orders, .ref tA_has, .int (nI t_tests), .ref tA_salt, .ref tA_crumbs, .long t_traced, .int t_hasSkin, .int t_hasBend])), (tA_is, .inl (g.2.1 0, 18, .inl t_is)), (tA_doings, .inl (g.2.1 0, 2, .inl t_doings)), (tA_doing, .inl (g.2.1 0, 72, .inl t_doing)), (tA_row, .inl (g.2.1 0, 80, .inl t_row_6))] → va_S A s.heap H locs → lv_has ls 6 [(3, .int l3_1)] → W p l e rX5_holdsAll s m args below meth c H locs 0 0 Q (F0 m 78 ls []) := by
    intro l3_1 t_when_2 t_most_3 t_mostAt_4 t_hiss_5 t_row_6 hE f_7_0 H locs ls hP hD hS hl
    try rw [hE] at E
    refine lv_iload_n hx hb dX5_holdsAll_78 rfl (lv_at hl 0 rfl) ?_
    exact RET l3_1 (t_when_2, t_most_3, t_mostAt_4, t_hiss_5, t_row_6) H locs _ _ (⟨E.symm.trans hO, (by assumption)⟩) (x_nar (by assumption)) hP hD hS dX5_holdsAll_79
  have E := E_7
  have L_15 : ∀ (n_15 : Nat) (l3_8 : Int32) (k4_9 : Nat) (t_when_10 : Int32) (t_most_11 : Int32) (t_mostAt_12 : Int32) (t_hiss_13 : Int32) (t_row_14 : Nat → Int32), (k4_9 ≤ 16) → ((16 - k4_9) < n_15) → (l3_8 = 0 ∨ l3_8 = 1) → o_7 = F_X5_holdsAll_L5 t_is t_doings t_doing a1 a2 n_15 l3_8 k4_9 t_when_10 t_most_11 t_mostAt_12 t_hiss_13 t_row_14 → ∀ (H : Heap) (locs : List Loc) (ls : Array Slot), va_P g.1 vwCl [(tA, .inr (5, [.int (nI t_length), .ref tA_text, .int (nI t_at), .int (nI t_begin), .int t_told, .ref tA_is, .ref tA_doings, .ref tA_doing, .int t_items, .ref tA_row, .ref tA_isKept, .int t_when_10, .int t_most_11, .int t_mostAt_12, .int t_hiss_13, .ref tA_best, .ref tA_heats, .ref tA_orders, .ref tA_has, .int (nI t_tests), .ref tA_salt, .ref tA_crumbs, .long t_traced, .int t_hasSkin, .int t_hasBend])), (tA_is, .inl (g.2.1 0, 18, .inl t_is)), (tA_doings, .inl (g.2.1 0, 2, .inl t_doings)), (tA_doing, .inl (g.2.1 0, 72, .inl t_doing)), (tA_row, .inl (g.2.1 0, 80, .inl t_row_14))] H → va_D A [(tA, .inr (5, [.int (nI t_length), .ref tA_text, .int (nI t_at), .int (nI t_begin), .int t_told, .ref tA_is, .ref tA_doings, .ref tA_doing, .int t_items, .ref tA_row, .ref tA_isKept, .int t_when_10, .int t_most_11, .int t_mostAt_12, .int t_hiss_13, .ref tA_best, .ref tA_heats, .ref tA_orders, .ref tA_has, .int (nI t_tests), .ref tA_salt, .ref tA_crumbs, .long t_traced, .int t_hasSkin, .int t_hasBend])), (tA_is, .inl (g.2.1 0, 18, .inl t_is)), (tA_doings, .inl (g.2.1 0, 2, .inl t_doings)), (tA_doing, .inl (g.2.1 0, 72, .inl t_doing)), (tA_row, .inl (g.2.1 0, 80, .inl t_row_14))] → va_S A s.heap H locs → lv_has ls 6 [(0, .ref tA), (1, .int a1), (2, .int a2), (3, .int l3_8), (4, .int (nI k4_9))] → W p l e rX5_holdsAll s m args below meth c H locs 0 0 Q (F0 m 5 ls []) := by
    intro n_15
    induction n_15 with
    | zero => intro l3_8 k4_9 t_when_10 t_most_11 t_mostAt_12 t_hiss_13 t_row_14 i_15_0 i_15_1 i_15_2; exact absurd i_15_1 (by omega)
    | succ n_15 ih_15 =>
      intro l3_8 k4_9 t_when_10 t_most_11 t_mostAt_12 t_hiss_13 t_row_14 i_15_0 i_15_1 i_15_2 E H locs ls hP hD hS hl
      rw [F_X5_holdsAll_L5.eq_2] at E
      refine lv_iload hx hb dX5_holdsAll_5 (lv_at hl 4 rfl) ?_
      refine lv_bipush (v := 16) hx hb dX5_holdsAll_7 (by decide) ?_
      refine x_icmp_ge (a := k4_9) (b := 16) (tgt := 78) hx hb (by omega) (by omega) dX5_holdsAll_9 (by decide) (fun c_16 => ?_) (fun c_16 => ?_)
      · have E := x_pos E c_16
        exact J_7 l3_8 t_when_10 t_most_11 t_mostAt_12 t_hiss_13 t_row_14 E (by assumption) H locs ls hP hD hS (lv_sub hl [3] rfl)
      · have E := x_neg E c_16
        refine lv_iload_n hx hb dX5_holdsAll_12 rfl (lv_at hl 3 rfl) ?_
        refine lv_if_eq (tgt := 78) hx hb dX5_holdsAll_13 (by decide) (fun c_17 => ?_) (fun c_17 => ?_)
        · have E := x_pos E c_17
          exact J_7 l3_8 t_when_10 t_most_11 t_mostAt_12 t_hiss_13 t_row_14 E (by assumption) H locs ls hP hD hS (lv_sub hl [3] rfl)
        · have E := x_neg E c_17
          refine lv_aload_n hx hb dX5_holdsAll_16 rfl (lv_at hl 0 rfl) ?_
          refine lv_iload hx hb dX5_holdsAll_17 (lv_at hl 4 rfl) ?_
          refine x_callVv (w2 := fun u => [(tA, .inr (5, [.int (nI t_length), .ref tA_text, .int (nI t_at), .int (nI t_begin), .int t_told, .ref tA_is, .ref tA_doings, .ref tA_doing, .int t_items, .ref tA_row, .ref tA_isKept, .int u.1, .int u.2.1, .int u.2.2.1, .int u.2.2.2.1, .ref tA_best, .ref tA_heats, .ref tA_orders, .ref tA_has, .int (nI t_tests), .ref tA_salt, .ref tA_crumbs, .long t_traced, .int t_hasSkin, .int t_hasBend])), (tA_is, .inl (g.2.1 0, 18, .inl t_is)), (tA_doings, .inl (g.2.1 0, 2, .inl t_doings)), (tA_doing, .inl (g.2.1 0, 72, .inl t_doing)), (tA_row, .inl (g.2.1 0, 80, .inl u.2.2.2.2))]) (wr := [(tA_doings, .inl (g.2.1 0, 2, .inl t_doings)), (tA_doing, .inl (g.2.1 0, 72, .inl t_doing))]) [0, 1, 4] [2, 3] [2, 3, 0, 1, 4] 0 5 ⟨hx, hb, hml, hown, hts⟩ hK hX hP hD hS hA (m_X5_fresh l g tA tA_is tA_row tA_text tA_doings tA_doing tA_isKept tA_best tA_heats tA_orders tA_has tA_salt tA_crumbs t_length t_at t_begin t_told t_items t_when_10 t_most_11 t_mostAt_12 t_hiss_13 t_tests t_traced t_hasSkin t_hasBend t_is t_row_14 (nI k4_9)) (cwV 1 hts (x_gV kw_608 kw_609 kw_610 kw_5 kw_611) rfl rfl rfl vX5_fresh ⟨Nat.le_of_ble_eq_true rfl, Nat.le_of_ble_eq_true rfl⟩) rfl rfl rfl rfl rfl rfl rfl (by decide) (fun _ => rfl) rfl rfl hl.1 rfl (Nat.le_of_ble_eq_true rfl) dX5_holdsAll_19 ⟨Nat.zero_le _, Nat.zero_le _⟩ (fun u H locs hw_23 hP hD hS => ?_)
          obtain ⟨t_when_18, t_most_19, t_mostAt_20, t_hiss_21, t_row_22⟩ := u
          have hP : va_P g.1 vwCl [(tA, .inr (5, [.int (nI t_length), .ref tA_text, .int (nI t_at), .int (nI t_begin), .int t_told, .ref tA_is, .ref tA_doings, .ref tA_doing, .int t_items, .ref tA_row, .ref tA_isKept, .int t_when_18, .int t_most_19, .int t_mostAt_20, .int t_hiss_21, .ref tA_best, .ref tA_heats, .ref tA_orders, .ref tA_has, .int (nI t_tests), .ref tA_salt, .ref tA_crumbs, .long t_traced, .int t_hasSkin, .int t_hasBend])), (tA_is, .inl (g.2.1 0, 18, .inl t_is)), (tA_doings, .inl (g.2.1 0, 2, .inl t_doings)), (tA_doing, .inl (g.2.1 0, 72, .inl t_doing)), (tA_row, .inl (g.2.1 0, 80, .inl t_row_22))] H := hP
          have hD : va_D A [(tA, .inr (5, [.int (nI t_length), .ref tA_text, .int (nI t_at), .int (nI t_begin), .int t_told, .ref tA_is, .ref tA_doings, .ref tA_doing, .int t_items, .ref tA_row, .ref tA_isKept, .int t_when_18, .int t_most_19, .int t_mostAt_20, .int t_hiss_21, .ref tA_best, .ref tA_heats, .ref tA_orders, .ref tA_has, .int (nI t_tests), .ref tA_salt, .ref tA_crumbs, .long t_traced, .int t_hasSkin, .int t_hasBend])), (tA_is, .inl (g.2.1 0, 18, .inl t_is)), (tA_doings, .inl (g.2.1 0, 2, .inl t_doings)), (tA_doing, .inl (g.2.1 0, 72, .inl t_doing)), (tA_row, .inl (g.2.1 0, 80, .inl t_row_22))] := hD
          have E := x_nm_eq E hw_23
          refine lv_aload_n hx hb dX5_holdsAll_22 rfl (lv_at hl 0 rfl) ?_
          refine lv_iconst (v := 3) hx hb dX5_holdsAll_23 (by decide) ?_
          refine lv_iload_n hx hb dX5_holdsAll_24 rfl (lv_at hl 1 rfl) ?_
          refine x_callVv (w2 := fun u => [(tA, .inr (5, [.int (nI t_length), .ref tA_text, .int (nI t_at), .int (nI t_begin), .int t_told, .ref tA_is, .ref tA_doings, .ref tA_doing, .int t_items, .ref tA_row, .ref tA_isKept, .int t_when_18, .int t_most_19, .int t_mostAt_20, .int t_hiss_21, .ref tA_best, .ref tA_heats, .ref tA_orders, .ref tA_has, .int (nI t_tests), .ref tA_salt, .ref tA_crumbs, .long t_traced, .int t_hasSkin, .int t_hasBend])), (tA_is, .inl (g.2.1 0, 18, .inl t_is)), (tA_doings, .inl (g.2.1 0, 2, .inl t_doings)), (tA_doing, .inl (g.2.1 0, 72, .inl t_doing)), (tA_row, .inl (g.2.1 0, 80, .inl u))]) (wr := [(tA_is, .inl (g.2.1 0, 18, .inl t_is)), (tA_doings, .inl (g.2.1 0, 2, .inl t_doings)), (tA_doing, .inl (g.2.1 0, 72, .inl t_doing))]) [0, 4] [1, 2, 3] [3, 0, 1, 2, 4] 0 5 ⟨hx, hb, hml, hown, hts⟩ hK hX hP hD hS hA (m_X5_pricked l g tA tA_row tA_text tA_is tA_doings tA_doing tA_isKept tA_best tA_heats tA_orders tA_has tA_salt tA_crumbs t_length t_at t_begin t_told t_items t_when_18 t_most_19 t_mostAt_20 t_hiss_21 t_tests t_traced t_hasSkin t_hasBend t_row_22 3 a1 (by first | assumption | omega | exact x_e8 (by assumption) (by assumption))) (cwV 2 hts (x_gV kw_502 kw_503 kw_504 kw_5 kw_505) rfl rfl rfl vX5_pricked ⟨Nat.le_of_ble_eq_true rfl, Nat.le_of_ble_eq_true rfl⟩) rfl rfl rfl rfl rfl rfl rfl (by decide) (fun _ => rfl) rfl rfl hl.1 rfl (Nat.le_of_ble_eq_true rfl) dX5_holdsAll_25 ⟨Nat.zero_le _, Nat.zero_le _⟩ (fun t_row_25 H locs hw_26 hP hD hS => ?_)
          have hP : va_P g.1 vwCl [(tA, .inr (5, [.int (nI t_length), .ref tA_text, .int (nI t_at), .int (nI t_begin), .int t_told, .ref tA_is, .ref tA_doings, .ref tA_doing, .int t_items, .ref tA_row, .ref tA_isKept, .int t_when_18, .int t_most_19, .int t_mostAt_20, .int t_hiss_21, .ref tA_best, .ref tA_heats, .ref tA_orders, .ref tA_has, .int (nI t_tests), .ref tA_salt, .ref tA_crumbs, .long t_traced, .int t_hasSkin, .int t_hasBend])), (tA_is, .inl (g.2.1 0, 18, .inl t_is)), (tA_doings, .inl (g.2.1 0, 2, .inl t_doings)), (tA_doing, .inl (g.2.1 0, 72, .inl t_doing)), (tA_row, .inl (g.2.1 0, 80, .inl t_row_25))] H := hP
          have hD : va_D A [(tA, .inr (5, [.int (nI t_length), .ref tA_text, .int (nI t_at), .int (nI t_begin), .int t_told, .ref tA_is, .ref tA_doings, .ref tA_doing, .int t_items, .ref tA_row, .ref tA_isKept, .int t_when_18, .int t_most_19, .int t_mostAt_20, .int t_hiss_21, .ref tA_best, .ref tA_heats, .ref tA_orders, .ref tA_has, .int (nI t_tests), .ref tA_salt, .ref tA_crumbs, .long t_traced, .int t_hasSkin, .int t_hasBend])), (tA_is, .inl (g.2.1 0, 18, .inl t_is)), (tA_doings, .inl (g.2.1 0, 2, .inl t_doings)), (tA_doing, .inl (g.2.1 0, 72, .inl t_doing)), (tA_row, .inl (g.2.1 0, 80, .inl t_row_25))] := hD
          have E := x_nm_eq E hw_26
          refine lv_iconst (v := 0) hx hb dX5_holdsAll_28 (by decide) ?_
          refine lv_istore (lv' := [(5, .int 0), (0, .ref tA), (1, .int a1), (2, .int a2), (3, .int l3_8), (4, .int (nI k4_9))]) hx hb dX5_holdsAll_29 hl (by decide) rfl (fun ls hl => ?_)
          obtain ⟨o_33, E_33, E⟩ := x_nm_ex E
          have J_33 : ∀ (t_when_28 : Int32) (t_most_29 : Int32) (t_mostAt_30 : Int32) (t_hiss_31 : Int32) (t_row_32 : Nat → Int32), o_33 = (t_when_28, t_most_29, t_mostAt_30, t_hiss_31, t_row_32) → ∀ (H : Heap) (locs : List Loc) (ls : Array Slot), va_P g.1 vwCl [(tA, .inr (5, [.int (nI t_length), .ref tA_text, .int (nI t_at), .int (nI t_begin), .int t_told, .ref tA_is, .ref tA_doings, .ref tA_doing, .int t_items, .ref tA_row, .ref tA_isKept, .int t_when_28, .int t_most_29, .int t_mostAt_30, .int t_hiss_31, .ref tA_best, .ref tA_heats, .ref tA_orders, .ref tA_has, .int (nI t_tests), .ref tA_salt, .ref tA_crumbs, .long t_traced, .int t_hasSkin, .int t_hasBend])), (tA_is, .inl (g.2.1 0, 18, .inl t_is)), (tA_doings, .inl (g.2.1 0, 2, .inl t_doings)), (tA_doing, .inl (g.2.1 0, 72, .inl t_doing)), (tA_row, .inl (g.2.1 0, 80, .inl t_row_32))] H → va_D A [(tA, .inr (5, [.int (nI t_length), .ref tA_text, .int (nI t_at), .int (nI t_begin), .int t_told, .ref tA_is, .ref tA_doings, .ref tA_doing, .int t_items, .ref tA_row, .ref tA_isKept, .int t_when_28, .int t_most_29, .int t_mostAt_30, .int t_hiss_31, .ref tA_best, .ref tA_heats, .ref tA_orders, .ref tA_has, .int (nI t_tests), .ref tA_salt, .ref tA_crumbs, .long t_traced, .int t_hasSkin, .int t_hasBend])), (tA_is, .inl (g.2.1 0, 18, .inl t_is)), (tA_doings, .inl (g.2.1 0, 2, .inl t_doings)), (tA_doing, .inl (g.2.1 0, 72, .inl t_doing)), (tA_row, .inl (g.2.1 0, 80, .inl t_row_32))] → va_S A s.heap H locs → lv_has ls 6 [(0, .ref tA), (1, .int a1), (2, .int a2), (4, .int (nI k4_9))] → W p l e rX5_holdsAll s m args below meth c H locs 0 0 Q (F0 m 54 ls []) := by
            intro t_when_28 t_most_29 t_mostAt_30 t_hiss_31 t_row_32 hE  H locs ls hP hD hS hl
            try rw [hE] at E
            refine lv_aload_n hx hb dX5_holdsAll_54 rfl (lv_at hl 0 rfl) ?_
            refine lv_iconst (v := 0) hx hb dX5_holdsAll_55 (by decide) ?_
            refine x_callVv (w2 := fun u => [(tA, .inr (5, [.int (nI t_length), .ref tA_text, .int (nI t_at), .int (nI t_begin), .int t_told, .ref tA_is, .ref tA_doings, .ref tA_doing, .int t_items, .ref tA_row, .ref tA_isKept, .int u.1, .int u.2.1, .int u.2.2.1, .int u.2.2.2.1, .ref tA_best, .ref tA_heats, .ref tA_orders, .ref tA_has, .int (nI t_tests), .ref tA_salt, .ref tA_crumbs, .long t_traced, .int t_hasSkin, .int t_hasBend])), (tA_is, .inl (g.2.1 0, 18, .inl t_is)), (tA_doings, .inl (g.2.1 0, 2, .inl t_doings)), (tA_doing, .inl (g.2.1 0, 72, .inl t_doing)), (tA_row, .inl (g.2.1 0, 80, .inl u.2.2.2.2))]) (wr := []) [0, 1, 2, 3, 4] [] [0, 1, 2, 3, 4] 0 5 ⟨hx, hb, hml, hown, hts⟩ hK hX hP hD hS hA (m_X5_plan l g tA tA_is tA_doings tA_doing tA_row tA_text tA_isKept tA_best tA_heats tA_orders tA_has tA_salt tA_crumbs t_length t_at t_begin t_told t_items t_when_28 t_most_29 t_mostAt_30 t_hiss_31 t_tests t_traced t_hasSkin t_hasBend t_is t_doings t_doing t_row_32 0 (by first | assumption | omega | exact x_e8 (by assumption) (by assumption)) (by first | assumption | omega | exact x_e8 (by assumption) (by assumption)) (by first | assumption | omega | exact x_e8 (by assumption) (by assumption)) (by first | assumption | omega | exact x_e8 (by assumption) (by assumption))) (cwV 1 hts (x_gV kw_612 kw_613 kw_614 kw_5 kw_615) rfl rfl rfl vX5_plan ⟨Nat.le_of_ble_eq_true rfl, Nat.le_of_ble_eq_true rfl⟩) rfl rfl rfl rfl rfl rfl rfl (by decide) (fun _ => rfl) rfl rfl hl.1 rfl (Nat.le_of_ble_eq_true rfl) dX5_holdsAll_56 ⟨Nat.zero_le _, Nat.zero_le _⟩ (fun u H locs hw_39 hP hD hS => ?_)
            obtain ⟨t_when_34, t_most_35, t_mostAt_36, t_hiss_37, t_row_38⟩ := u
            have hP : va_P g.1 vwCl [(tA, .inr (5, [.int (nI t_length), .ref tA_text, .int (nI t_at), .int (nI t_begin), .int t_told, .ref tA_is, .ref tA_doings, .ref tA_doing, .int t_items, .ref tA_row, .ref tA_isKept, .int t_when_34, .int t_most_35, .int t_mostAt_36, .int t_hiss_37, .ref tA_best, .ref tA_heats, .ref tA_orders, .ref tA_has, .int (nI t_tests), .ref tA_salt, .ref tA_crumbs, .long t_traced, .int t_hasSkin, .int t_hasBend])), (tA_is, .inl (g.2.1 0, 18, .inl t_is)), (tA_doings, .inl (g.2.1 0, 2, .inl t_doings)), (tA_doing, .inl (g.2.1 0, 72, .inl t_doing)), (tA_row, .inl (g.2.1 0, 80, .inl t_row_38))] H := hP
            have hD : va_D A [(tA, .inr (5, [.int (nI t_length), .ref tA_text, .int (nI t_at), .int (nI t_begin), .int t_told, .ref tA_is, .ref tA_doings, .ref tA_doing, .int t_items, .ref tA_row, .ref tA_isKept, .int t_when_34, .int t_most_35, .int t_mostAt_36, .int t_hiss_37, .ref tA_best, .ref tA_heats, .ref tA_orders, .ref tA_has, .int (nI t_tests), .ref tA_salt, .ref tA_crumbs, .long t_traced, .int t_hasSkin, .int t_hasBend])), (tA_is, .inl (g.2.1 0, 18, .inl t_is)), (tA_doings, .inl (g.2.1 0, 2, .inl t_doings)), (tA_doing, .inl (g.2.1 0, 72, .inl t_doing)), (tA_row, .inl (g.2.1 0, 80, .inl t_row_38))] := hD
            have E := x_nm_eq E hw_39
            refine lv_aload_n hx hb dX5_holdsAll_59 rfl (lv_at hl 0 rfl) ?_
            refine va_get (ci := 5) (v := .int t_when_34) (C := RX5) (T := TX5) (N := 25) hx hb hts inlX5 hown hK.1 hP 0 rfl rfl 11 (by decide) (hts _ kw_99) (fun _ h9 => h9) rfl dX5_holdsAll_60 ?_
            obtain ⟨o_42, E_42, E⟩ := x_nm_ex E
            have J_42 : ∀ (v_41 : Int32), o_42 = v_41 → (v_41 = 0 ∨ v_41 = 1) → ∀ (H : Heap) (locs : List Loc) (ls : Array Slot), va_P g.1 vwCl [(tA, .inr (5, [.int (nI t_length), .ref tA_text, .int (nI t_at), .int (nI t_begin), .int t_told, .ref tA_is, .ref tA_doings, .ref tA_doing, .int t_items, .ref tA_row, .ref tA_isKept, .int t_when_34, .int t_most_35, .int t_mostAt_36, .int t_hiss_37, .ref tA_best, .ref tA_heats, .ref tA_orders, .ref tA_has, .int (nI t_tests), .ref tA_salt, .ref tA_crumbs, .long t_traced, .int t_hasSkin, .int t_hasBend])), (tA_is, .inl (g.2.1 0, 18, .inl t_is)), (tA_doings, .inl (g.2.1 0, 2, .inl t_doings)), (tA_doing, .inl (g.2.1 0, 72, .inl t_doing)), (tA_row, .inl (g.2.1 0, 80, .inl t_row_38))] H → va_D A [(tA, .inr (5, [.int (nI t_length), .ref tA_text, .int (nI t_at), .int (nI t_begin), .int t_told, .ref tA_is, .ref tA_doings, .ref tA_doing, .int t_items, .ref tA_row, .ref tA_isKept, .int t_when_34, .int t_most_35, .int t_mostAt_36, .int t_hiss_37, .ref tA_best, .ref tA_heats, .ref tA_orders, .ref tA_has, .int (nI t_tests), .ref tA_salt, .ref tA_crumbs, .long t_traced, .int t_hasSkin, .int t_hasBend])), (tA_is, .inl (g.2.1 0, 18, .inl t_is)), (tA_doings, .inl (g.2.1 0, 2, .inl t_doings)), (tA_doing, .inl (g.2.1 0, 72, .inl t_doing)), (tA_row, .inl (g.2.1 0, 80, .inl t_row_38))] → va_S A s.heap H locs → lv_has ls 6 [(0, .ref tA), (1, .int a1), (2, .int a2), (4, .int (nI k4_9))] → W p l e rX5_holdsAll s m args below meth c H locs 0 0 Q (F0 m 71 ls [.int v_41]) := by
              intro v_41 hE f_42_0 H locs ls hP hD hS hl
              try rw [hE] at E
              refine lv_istore_n (lv' := [(3, .int v_41), (0, .ref tA), (1, .int a1), (2, .int a2), (4, .int (nI k4_9))]) hx hb dX5_holdsAll_71 rfl hl (by decide) rfl (fun ls hl => ?_)
              refine lv_iinc (v := nI (k4_9 + 1)) (lv' := [(4, .int (nI (k4_9 + 1))), (3, .int v_41), (0, .ref tA), (1, .int a1), (2, .int a2)]) hx hb dX5_holdsAll_72 hl (k := 4) rfl (nI_1 k4_9) (by decide) rfl (fun ls hl => ?_)
              refine lv_goto (tgt := 5) hx hb dX5_holdsAll_75 (by decide) ?_
              exact ih_15 v_41 (k4_9 + 1) t_when_34 t_most_35 t_mostAt_36 t_hiss_37 t_row_38 (by first | omega | assumption | exact Eq.trans (by assumption) (by assumption)) (by omega) (by assumption) E H locs ls hP hD hS (lv_sub hl [2, 3, 4, 1, 0] rfl)
            have E := E_42
            refine lv_if_ge (tgt := 70) hx hb dX5_holdsAll_63 (by decide) (fun c_43 => ?_) (fun c_43 => ?_)
            · have E := x_pos E c_43
              refine lv_iconst (v := 0) hx hb dX5_holdsAll_70 (by decide) ?_
              exact J_42 0 E (Or.inl rfl) H locs ls hP hD hS (lv_sub hl [0, 1, 2, 3] rfl)
            · have E := x_neg E c_43
              refine lv_iconst (v := 1) hx hb dX5_holdsAll_66 (by decide) ?_
              refine lv_goto (tgt := 71) hx hb dX5_holdsAll_67 (by decide) ?_
              exact J_42 1 E (Or.inr rfl) H locs ls hP hD hS (lv_sub hl [0, 1, 2, 3] rfl)
          have E := E_33
          have L_50 : ∀ (n_50 : Nat) (k5_44 : Nat) (t_when_45 : Int32) (t_most_46 : Int32) (t_mostAt_47 : Int32) (t_hiss_48 : Int32) (t_row_49 : Nat → Int32), (k5_44 ≤ 60) → ((60 - k5_44) < n_50) → o_33 = F_X5_holdsAll_L31 t_is a2 n_50 k5_44 t_when_45 t_most_46 t_mostAt_47 t_hiss_48 t_row_49 → ∀ (H : Heap) (locs : List Loc) (ls : Array Slot), va_P g.1 vwCl [(tA, .inr (5, [.int (nI t_length), .ref tA_text, .int (nI t_at), .int (nI t_begin), .int t_told, .ref tA_is, .ref tA_doings, .ref tA_doing, .int t_items, .ref tA_row, .ref tA_isKept, .int t_when_45, .int t_most_46, .int t_mostAt_47, .int t_hiss_48, .ref tA_best, .ref tA_heats, .ref tA_orders, .ref tA_has, .int (nI t_tests), .ref tA_salt, .ref tA_crumbs, .long t_traced, .int t_hasSkin, .int t_hasBend])), (tA_is, .inl (g.2.1 0, 18, .inl t_is)), (tA_doings, .inl (g.2.1 0, 2, .inl t_doings)), (tA_doing, .inl (g.2.1 0, 72, .inl t_doing)), (tA_row, .inl (g.2.1 0, 80, .inl t_row_49))] H → va_D A [(tA, .inr (5, [.int (nI t_length), .ref tA_text, .int (nI t_at), .int (nI t_begin), .int t_told, .ref tA_is, .ref tA_doings, .ref tA_doing, .int t_items, .ref tA_row, .ref tA_isKept, .int t_when_45, .int t_most_46, .int t_mostAt_47, .int t_hiss_48, .ref tA_best, .ref tA_heats, .ref tA_orders, .ref tA_has, .int (nI t_tests), .ref tA_salt, .ref tA_crumbs, .long t_traced, .int t_hasSkin, .int t_hasBend])), (tA_is, .inl (g.2.1 0, 18, .inl t_is)), (tA_doings, .inl (g.2.1 0, 2, .inl t_doings)), (tA_doing, .inl (g.2.1 0, 72, .inl t_doing)), (tA_row, .inl (g.2.1 0, 80, .inl t_row_49))] → va_S A s.heap H locs → lv_has ls 6 [(0, .ref tA), (1, .int a1), (2, .int a2), (4, .int (nI k4_9)), (5, .int (nI k5_44))] → W p l e rX5_holdsAll s m args below meth c H locs 0 0 Q (F0 m 31 ls []) := by
            intro n_50
            induction n_50 with
            | zero => intro k5_44 t_when_45 t_most_46 t_mostAt_47 t_hiss_48 t_row_49 i_50_0 i_50_1; exact absurd i_50_1 (by omega)
            | succ n_50 ih_50 =>
              intro k5_44 t_when_45 t_most_46 t_mostAt_47 t_hiss_48 t_row_49 i_50_0 i_50_1 E H locs ls hP hD hS hl
              rw [F_X5_holdsAll_L31.eq_2] at E
              refine lv_iload hx hb dX5_holdsAll_31 (lv_at hl 4 rfl) ?_
              refine lv_bipush (v := 60) hx hb dX5_holdsAll_33 (by decide) ?_
              refine x_icmp_ge (a := k5_44) (b := 60) (tgt := 54) hx hb (by omega) (by omega) dX5_holdsAll_35 (by decide) (fun c_51 => ?_) (fun c_51 => ?_)
              · have E := x_pos E c_51
                exact J_33 t_when_45 t_most_46 t_mostAt_47 t_hiss_48 t_row_49 E  H locs ls hP hD hS (lv_sub hl [0, 1, 2, 3] rfl)
              · have E := x_neg E c_51
                refine lv_iload_n hx hb dX5_holdsAll_38 rfl (lv_at hl 2 rfl) ?_
                refine lv_if_le (tgt := 54) hx hb dX5_holdsAll_39 (by decide) (fun c_52 => ?_) (fun c_52 => ?_)
                · have E := x_pos E c_52
                  exact J_33 t_when_45 t_most_46 t_mostAt_47 t_hiss_48 t_row_49 E  H locs ls hP hD hS (lv_sub hl [0, 1, 2, 3] rfl)
                · have E := x_neg E c_52
                  refine lv_aload_n hx hb dX5_holdsAll_42 rfl (lv_at hl 0 rfl) ?_
                  refine lv_iload_n hx hb dX5_holdsAll_43 rfl (lv_at hl 2 rfl) ?_
                  refine lv_iconst (v := 1) hx hb dX5_holdsAll_44 (by decide) ?_
                  refine x_callVv (w2 := fun u => [(tA, .inr (5, [.int (nI t_length), .ref tA_text, .int (nI t_at), .int (nI t_begin), .int t_told, .ref tA_is, .ref tA_doings, .ref tA_doing, .int t_items, .ref tA_row, .ref tA_isKept, .int u.1, .int u.2.1, .int u.2.2.1, .int u.2.2.2.1, .ref tA_best, .ref tA_heats, .ref tA_orders, .ref tA_has, .int (nI t_tests), .ref tA_salt, .ref tA_crumbs, .long t_traced, .int t_hasSkin, .int t_hasBend])), (tA_is, .inl (g.2.1 0, 18, .inl t_is)), (tA_doings, .inl (g.2.1 0, 2, .inl t_doings)), (tA_doing, .inl (g.2.1 0, 72, .inl t_doing)), (tA_row, .inl (g.2.1 0, 80, .inl u.2.2.2.2))]) (wr := [(tA_doings, .inl (g.2.1 0, 2, .inl t_doings)), (tA_doing, .inl (g.2.1 0, 72, .inl t_doing))]) [0, 1, 4] [2, 3] [2, 3, 0, 1, 4] 0 5 ⟨hx, hb, hml, hown, hts⟩ hK hX hP hD hS hA (m_X5_tried l g tA tA_is tA_row tA_text tA_doings tA_doing tA_isKept tA_best tA_heats tA_orders tA_has tA_salt tA_crumbs t_length t_at t_begin t_told t_items t_when_45 t_most_46 t_mostAt_47 t_hiss_48 t_tests t_traced t_hasSkin t_hasBend t_is t_row_49 a2 1 (by first | assumption | omega | exact x_e8 (by assumption) (by assumption))) (cwV 2 hts (x_gV kw_616 kw_617 kw_618 kw_5 kw_619) rfl rfl rfl vX5_tried ⟨Nat.le_of_ble_eq_true rfl, Nat.le_of_ble_eq_true rfl⟩) rfl rfl rfl rfl rfl rfl rfl (by decide) (fun _ => rfl) rfl rfl hl.1 rfl (Nat.le_of_ble_eq_true rfl) dX5_holdsAll_45 ⟨Nat.zero_le _, Nat.zero_le _⟩ (fun u H locs hw_58 hP hD hS => ?_)
                  obtain ⟨t_when_53, t_most_54, t_mostAt_55, t_hiss_56, t_row_57⟩ := u
                  have hP : va_P g.1 vwCl [(tA, .inr (5, [.int (nI t_length), .ref tA_text, .int (nI t_at), .int (nI t_begin), .int t_told, .ref tA_is, .ref tA_doings, .ref tA_doing, .int t_items, .ref tA_row, .ref tA_isKept, .int t_when_53, .int t_most_54, .int t_mostAt_55, .int t_hiss_56, .ref tA_best, .ref tA_heats, .ref tA_orders, .ref tA_has, .int (nI t_tests), .ref tA_salt, .ref tA_crumbs, .long t_traced, .int t_hasSkin, .int t_hasBend])), (tA_is, .inl (g.2.1 0, 18, .inl t_is)), (tA_doings, .inl (g.2.1 0, 2, .inl t_doings)), (tA_doing, .inl (g.2.1 0, 72, .inl t_doing)), (tA_row, .inl (g.2.1 0, 80, .inl t_row_57))] H := hP
                  have hD : va_D A [(tA, .inr (5, [.int (nI t_length), .ref tA_text, .int (nI t_at), .int (nI t_begin), .int t_told, .ref tA_is, .ref tA_doings, .ref tA_doing, .int t_items, .ref tA_row, .ref tA_isKept, .int t_when_53, .int t_most_54, .int t_mostAt_55, .int t_hiss_56, .ref tA_best, .ref tA_heats, .ref tA_orders, .ref tA_has, .int (nI t_tests), .ref tA_salt, .ref tA_crumbs, .long t_traced, .int t_hasSkin, .int t_hasBend])), (tA_is, .inl (g.2.1 0, 18, .inl t_is)), (tA_doings, .inl (g.2.1 0, 2, .inl t_doings)), (tA_doing, .inl (g.2.1 0, 72, .inl t_doing)), (tA_row, .inl (g.2.1 0, 80, .inl t_row_57))] := hD
                  have E := x_nm_eq E hw_58
                  refine lv_iinc (v := nI (k5_44 + 1)) (lv' := [(5, .int (nI (k5_44 + 1))), (0, .ref tA), (1, .int a1), (2, .int a2), (4, .int (nI k4_9))]) hx hb dX5_holdsAll_48 hl (k := 4) rfl (nI_1 k5_44) (by decide) rfl (fun ls hl => ?_)
                  refine lv_goto (tgt := 31) hx hb dX5_holdsAll_51 (by decide) ?_
                  exact ih_50 (k5_44 + 1) t_when_53 t_most_54 t_mostAt_55 t_hiss_56 t_row_57 (by first | omega | assumption | exact Eq.trans (by assumption) (by assumption)) (by omega) E H locs ls hP hD hS (lv_sub hl [1, 2, 3, 4, 0] rfl)
          exact L_50 (60 + 1) 0 t_when_18 t_most_19 t_mostAt_20 t_hiss_21 t_row_25 (by first | omega | assumption | rfl) (by omega) E H locs ls hP hD hS (lv_sub hl [1, 2, 3, 5, 0] rfl)
  exact L_15 (16 + 1) 1 0 t_when t_most t_mostAt t_hiss t_row (by first | omega | assumption | rfl) (by omega) (Or.inr rfl) E H locs ls hP hD hS (lv_sub hl [2, 3, 4, 1, 0] rfl)
abbrev rX5_pricks : Room := { frames := 5, cells := 0, slots := 0, locals := 131 }
theorem vX5_pricks : yX5_pricks.cls = RX5 ∧ yX5_pricks.cls ≠ "java/lang/invoke/MethodHandle" ∧ yX5_pricks.cls ≠ "java/lang/invoke/VarHandle" ∧ (parseMethodDescriptor yX5_pricks.desc).map (fun d => d.parameters.length) = some 1 := by decide +kernel
abbrev wX5_pricks : List Cond := Cond.code yX5_pricks cX5_pricks 3 (some .int) :: wsL_law
def F_X5_pricks_L14 (t_is : Nat → Int32) (t_doings : Nat → Int32) (t_doing : Nat → Int32) (j_7 : Nat) : Nat → Nat → Int32 → Int32 → Int32 → Int32 → (Nat → Int32) → Int32 × Int32 × Int32 × Int32 × Int32 × (Nat → Int32)
  | 0, k2_8, t_when_9, t_most_10, t_mostAt_11, t_hiss_12, t_row_13 => (0, 0, 0, 0, 0, (fun _ => 0))
  | n_14 + 1, k2_8, t_when_9, t_most_10, t_mostAt_11, t_hiss_12, t_row_13 => if 10 ≤ k2_8 then ((-9), t_when_9, t_most_10, t_mostAt_11, t_hiss_12, t_row_13) else x_nm (F_X5_holdsAll t_is t_doings t_doing t_row_13 t_when_9 t_most_10 t_mostAt_11 t_hiss_12 (nI k2_8) 0) fun u_24 => if u_24.1 = 0 then F_X5_pricks_L14 t_is t_doings t_doing j_7 n_14 (k2_8 + 1) u_24.2.1 u_24.2.2.1 u_24.2.2.2.1 u_24.2.2.2.2.1 u_24.2.2.2.2.2 else x_nm (F_X5_fresh t_is u_24.2.2.2.2.2 0) fun u_32 => x_nm (F_X5_pricked u_32.2.2.2.2 3 (nI k2_8)) fun t_row_33 => x_nm (F_X5_plan t_is t_doings t_doing t_row_33 u_32.1 u_32.2.1 u_32.2.2.1 u_32.2.2.2.1 0) fun u_42 => x_nm (α := Int32) (if j_7 = 0 then nI k2_8 else u_42.2.2.2.2 69) fun u_44 => (u_44, u_42.1, u_42.2.1, u_42.2.2.1, u_42.2.2.2.1, u_42.2.2.2.2)
def F_X5_pricks (t_is : Nat → Int32) (t_doings : Nat → Int32) (t_doing : Nat → Int32) (t_row : Nat → Int32) (t_when : Int32) (t_most : Int32) (t_mostAt : Int32) (t_hiss : Int32) (a1 : Int32) : Int32 × Int32 × Int32 × Int32 × Int32 × (Nat → Int32) :=
  x_nm (F_X5_in a1.toInt64 0 1) fun z_1 => if z_1 = 0 then ((-1), t_when, t_most, t_mostAt, t_hiss, t_row) else x_nm (a1.toNatClampNeg) fun j_7 => F_X5_pricks_L14 t_is t_doings t_doing j_7 (10 + 1) 0 t_when t_most t_mostAt t_hiss t_row
set_option maxHeartbeats 4000000 in
set_option maxRecDepth 100000 in
theorem m_X5_pricks (l : Launch) (g : x_G) (tA tA_is tA_doings tA_doing tA_row tA_text tA_isKept tA_best tA_heats tA_orders tA_has tA_salt tA_crumbs : Nat) (t_length : Nat) (t_at : Nat) (t_begin : Nat) (t_told : Int32) (t_items : Int32) (t_when : Int32) (t_most : Int32) (t_mostAt : Int32) (t_hiss : Int32) (t_tests : Nat) (t_traced : Int64) (t_hasSkin : Int32) (t_hasBend : Int32) (t_is : Nat → Int32) (t_doings : Nat → Int32) (t_doing : Nat → Int32) (t_row : Nat → Int32) (a1 : Int32) (h_0 : (t_doings 0).toNatClampNeg ≤ 12) (h_1 : t_doings 0 = nI (t_doings 0).toNatClampNeg) (h_2 : ∀ k : Nat, k < 12 → (t_doing (3 * k + 2)).toNatClampNeg ≤ 99 ∧ t_doing (3 * k + 2) = nI (t_doing (3 * k + 2)).toNatClampNeg) (h_3 : ¬ 8 * t_is 0 = 0) : x_MetI l yX5_pricks wX5_pricks rX5_pricks g [.ref tA, .int a1] [(tA, .inr (5, [.int (nI t_length), .ref tA_text, .int (nI t_at), .int (nI t_begin), .int t_told, .ref tA_is, .ref tA_doings, .ref tA_doing, .int t_items, .ref tA_row, .ref tA_isKept, .int t_when, .int t_most, .int t_mostAt, .int t_hiss, .ref tA_best, .ref tA_heats, .ref tA_orders, .ref tA_has, .int (nI t_tests), .ref tA_salt, .ref tA_crumbs, .long t_traced, .int t_hasSkin, .int t_hasBend])), (tA_is, .inl (g.2.1 0, 18, .inl t_is)), (tA_doings, .inl (g.2.1 0, 2, .inl t_doings)), (tA_doing, .inl (g.2.1 0, 72, .inl t_doing)), (tA_row, .inl (g.2.1 0, 80, .inl t_row))] (fun (r : Int32) (u : Int32 × Int32 × Int32 × Int32 × (Nat → Int32)) => (r, u) = F_X5_pricks t_is t_doings t_doing t_row t_when t_most t_mostAt t_hiss a1) (fun u => [(tA, .inr (5, [.int (nI t_length), .ref tA_text, .int (nI t_at), .int (nI t_begin), .int t_told, .ref tA_is, .ref tA_doings, .ref tA_doing, .int t_items, .ref tA_row, .ref tA_isKept, .int u.1, .int u.2.1, .int u.2.2.1, .int u.2.2.2.1, .ref tA_best, .ref tA_heats, .ref tA_orders, .ref tA_has, .int (nI t_tests), .ref tA_salt, .ref tA_crumbs, .long t_traced, .int t_hasSkin, .int t_hasBend])), (tA_is, .inl (g.2.1 0, 18, .inl t_is)), (tA_doings, .inl (g.2.1 0, 2, .inl t_doings)), (tA_doing, .inl (g.2.1 0, 72, .inl t_doing)), (tA_row, .inl (g.2.1 0, 80, .inl u.2.2.2.2))]) := by
  refine x_startI (cc := cX5_pricks) (maxL := 3) (by decide) rfl (Nat.le_of_ble_eq_true rfl) ?_
  intro p e s m args below meth c Q A ls H locs hx hb hml hown hts hK hX hP hD hS hA hl RET
  have hown : s.vm.findClass RX5 = some m.cls := hown
  have hl : lv_has ls 3 [(0, .ref tA), (1, .int a1)] := hl
  obtain ⟨o_0, hO⟩ : ∃ z, z = F_X5_pricks t_is t_doings t_doing t_row t_when t_most t_mostAt t_hiss a1 := ⟨_, rfl⟩
  have E := hO
  rw [F_X5_pricks.eq_1] at E
  refine lv_iload_n hx hb dX5_pricks_0 rfl (lv_at hl 1 rfl) ?_
  refine lv_i2l (v := a1.toInt64) hx hb dX5_pricks_1 rfl ?_
  refine lv_lconst (v := 0) hx hb dX5_pricks_2 (by decide) ?_
  refine lv_lconst (v := 1) hx hb dX5_pricks_3 (by decide) ?_
  refine x_callS0 ⟨hx, hb, hml, hown, hts⟩ hK hX hP hD hS hA (m_X5_in l g a1.toInt64 0 1) (va_cwS 3 hts (x_gS kw_129 kw_130 kw_5 kw_131) rfl rfl rfl vX5_inS ⟨Nat.le_of_ble_eq_true rfl, Nat.le_of_ble_eq_true rfl⟩) rfl hl.1 rfl (Nat.le_of_ble_eq_true rfl) dX5_pricks_4 ⟨Nat.zero_le _, Nat.zero_le _⟩ (fun z_1 _ H locs hw_2 hP hD hS => ?_)
  obtain ⟨hw_2, b_3⟩ := hw_2
  have E := x_nm_eq E hw_2
  refine x_if_neI (tgt := 12) hx hb dX5_pricks_7 (by decide) (fun c_5 => ?_) (fun c_5 => ?_)
  · have E := x_neg E c_5
    obtain ⟨j_7, hj⟩ : ∃ z, z = (a1).toNatClampNeg := ⟨_, rfl⟩
    have r_6_0 := (x_ins (lo := 0) (hi := 1) (by omega) (by omega) (fun q => c_5 (hw_2.trans q)))
    rw [← hj] at r_6_0
    obtain ⟨r_6_0_a, r_6_0_b, e_6_0⟩ := r_6_0
    have E := x_nm_eq E hj
    have hl : lv_has ls 3 [(0, .ref tA), (1, .int (nI j_7))] := by rw [e_6_0] at hl; exact hl
    refine lv_iconst (v := 0) hx hb dX5_pricks_12 (by decide) ?_
    refine lv_istore_n (lv' := [(2, .int 0), (0, .ref tA), (1, .int (nI j_7))]) hx hb dX5_pricks_13 rfl hl (by decide) rfl (fun ls hl => ?_)
    have L_14 : ∀ (n_14 : Nat) (k2_8 : Nat) (t_when_9 : Int32) (t_most_10 : Int32) (t_mostAt_11 : Int32) (t_hiss_12 : Int32) (t_row_13 : Nat → Int32), (k2_8 ≤ 10) → ((10 - k2_8) < n_14) → o_0 = F_X5_pricks_L14 t_is t_doings t_doing j_7 n_14 k2_8 t_when_9 t_most_10 t_mostAt_11 t_hiss_12 t_row_13 → ∀ (H : Heap) (locs : List Loc) (ls : Array Slot), va_P g.1 vwCl [(tA, .inr (5, [.int (nI t_length), .ref tA_text, .int (nI t_at), .int (nI t_begin), .int t_told, .ref tA_is, .ref tA_doings, .ref tA_doing, .int t_items, .ref tA_row, .ref tA_isKept, .int t_when_9, .int t_most_10, .int t_mostAt_11, .int t_hiss_12, .ref tA_best, .ref tA_heats, .ref tA_orders, .ref tA_has, .int (nI t_tests), .ref tA_salt, .ref tA_crumbs, .long t_traced, .int t_hasSkin, .int t_hasBend])), (tA_is, .inl (g.2.1 0, 18, .inl t_is)), (tA_doings, .inl (g.2.1 0, 2, .inl t_doings)), (tA_doing, .inl (g.2.1 0, 72, .inl t_doing)), (tA_row, .inl (g.2.1 0, 80, .inl t_row_13))] H → va_D A [(tA, .inr (5, [.int (nI t_length), .ref tA_text, .int (nI t_at), .int (nI t_begin), .int t_told, .ref tA_is, .ref tA_doings, .ref tA_doing, .int t_items, .ref tA_row, .ref tA_isKept, .int t_when_9, .int t_most_10, .int t_mostAt_11, .int t_hiss_12, .ref tA_best, .ref tA_heats, .ref tA_orders, .ref tA_has, .int (nI t_tests), .ref tA_salt, .ref tA_crumbs, .long t_traced, .int t_hasSkin, .int t_hasBend])), (tA_is, .inl (g.2.1 0, 18, .inl t_is)), (tA_doings, .inl (g.2.1 0, 2, .inl t_doings)), (tA_doing, .inl (g.2.1 0, 72, .inl t_doing)), (tA_row, .inl (g.2.1 0, 80, .inl t_row_13))] → va_S A s.heap H locs → lv_has ls 3 [(0, .ref tA), (1, .int (nI j_7)), (2, .int (nI k2_8))] → W p l e rX5_pricks s m args below meth c H locs 0 0 Q (F0 m 14 ls []) := by
      intro n_14
      induction n_14 with
      | zero => intro k2_8 t_when_9 t_most_10 t_mostAt_11 t_hiss_12 t_row_13 i_14_0 i_14_1; exact absurd i_14_1 (by omega)
      | succ n_14 ih_14 =>
        intro k2_8 t_when_9 t_most_10 t_mostAt_11 t_hiss_12 t_row_13 i_14_0 i_14_1 E H locs ls hP hD hS hl
        rw [F_X5_pricks_L14.eq_2] at E
        refine lv_iload_n hx hb dX5_pricks_14 rfl (lv_at hl 2 rfl) ?_
        refine lv_bipush (v := 10) hx hb dX5_pricks_15 (by decide) ?_
        refine x_icmp_ge (a := k2_8) (b := 10) (tgt := 67) hx hb (by omega) (by omega) dX5_pricks_17 (by decide) (fun c_15 => ?_) (fun c_15 => ?_)
        · have E := x_pos E c_15
          refine lv_bipush (v := (-9)) hx hb dX5_pricks_67 (by decide) ?_
          exact RET (-9) (t_when_9, t_most_10, t_mostAt_11, t_hiss_12, t_row_13) H locs _ _ (E.symm.trans hO) rfl hP hD hS dX5_pricks_69
        · have E := x_neg E c_15
          refine lv_aload_n hx hb dX5_pricks_20 rfl (lv_at hl 0 rfl) ?_
          refine lv_iload_n hx hb dX5_pricks_21 rfl (lv_at hl 2 rfl) ?_
          refine lv_iconst (v := 0) hx hb dX5_pricks_22 (by decide) ?_
          refine x_callVi (w2 := fun u => [(tA, .inr (5, [.int (nI t_length), .ref tA_text, .int (nI t_at), .int (nI t_begin), .int t_told, .ref tA_is, .ref tA_doings, .ref tA_doing, .int t_items, .ref tA_row, .ref tA_isKept, .int u.1, .int u.2.1, .int u.2.2.1, .int u.2.2.2.1, .ref tA_best, .ref tA_heats, .ref tA_orders, .ref tA_has, .int (nI t_tests), .ref tA_salt, .ref tA_crumbs, .long t_traced, .int t_hasSkin, .int t_hasBend])), (tA_is, .inl (g.2.1 0, 18, .inl t_is)), (tA_doings, .inl (g.2.1 0, 2, .inl t_doings)), (tA_doing, .inl (g.2.1 0, 72, .inl t_doing)), (tA_row, .inl (g.2.1 0, 80, .inl u.2.2.2.2))]) (wr := []) [0, 1, 2, 3, 4] [] [0, 1, 2, 3, 4] 0 5 ⟨hx, hb, hml, hown, hts⟩ hK hX hP hD hS hA (m_X5_holdsAll l g tA tA_is tA_doings tA_doing tA_row tA_text tA_isKept tA_best tA_heats tA_orders tA_has tA_salt tA_crumbs t_length t_at t_begin t_told t_items t_when_9 t_most_10 t_mostAt_11 t_hiss_12 t_tests t_traced t_hasSkin t_hasBend t_is t_doings t_doing t_row_13 (nI k2_8) 0 (by first | assumption | omega | exact x_e8 (by assumption) (by assumption)) (by first | assumption | omega | exact x_e8 (by assumption) (by assumption)) (by first | assumption | omega | exact x_e8 (by assumption) (by assumption)) (by first | assumption | omega | exact x_e8 (by assumption) (by assumption))) (cwV 2 hts (x_gV kw_648 kw_649 kw_650 kw_5 kw_651) rfl rfl rfl vX5_holdsAll ⟨Nat.le_of_ble_eq_true rfl, Nat.le_of_ble_eq_true rfl⟩) rfl rfl rfl rfl rfl rfl rfl (by decide) (fun _ => rfl) rfl rfl hl.1 rfl (Nat.le_of_ble_eq_true rfl) dX5_pricks_23 ⟨Nat.zero_le _, Nat.zero_le _⟩ (fun z_21 u H locs hw_22 hP hD hS => ?_)
          obtain ⟨t_when_16, t_most_17, t_mostAt_18, t_hiss_19, t_row_20⟩ := u
          obtain ⟨hw_22, b_23⟩ := hw_22
          have hP : va_P g.1 vwCl [(tA, .inr (5, [.int (nI t_length), .ref tA_text, .int (nI t_at), .int (nI t_begin), .int t_told, .ref tA_is, .ref tA_doings, .ref tA_doing, .int t_items, .ref tA_row, .ref tA_isKept, .int t_when_16, .int t_most_17, .int t_mostAt_18, .int t_hiss_19, .ref tA_best, .ref tA_heats, .ref tA_orders, .ref tA_has, .int (nI t_tests), .ref tA_salt, .ref tA_crumbs, .long t_traced, .int t_hasSkin, .int t_hasBend])), (tA_is, .inl (g.2.1 0, 18, .inl t_is)), (tA_doings, .inl (g.2.1 0, 2, .inl t_doings)), (tA_doing, .inl (g.2.1 0, 72, .inl t_doing)), (tA_row, .inl (g.2.1 0, 80, .inl t_row_20))] H := hP
          have hD : va_D A [(tA, .inr (5, [.int (nI t_length), .ref tA_text, .int (nI t_at), .int (nI t_begin), .int t_told, .ref tA_is, .ref tA_doings, .ref tA_doing, .int t_items, .ref tA_row, .ref tA_isKept, .int t_when_16, .int t_most_17, .int t_mostAt_18, .int t_hiss_19, .ref tA_best, .ref tA_heats, .ref tA_orders, .ref tA_has, .int (nI t_tests), .ref tA_salt, .ref tA_crumbs, .long t_traced, .int t_hasSkin, .int t_hasBend])), (tA_is, .inl (g.2.1 0, 18, .inl t_is)), (tA_doings, .inl (g.2.1 0, 2, .inl t_doings)), (tA_doing, .inl (g.2.1 0, 72, .inl t_doing)), (tA_row, .inl (g.2.1 0, 80, .inl t_row_20))] := hD
          have E := x_nm_eq E hw_22
          refine lv_if_eq (tgt := 61) hx hb dX5_pricks_26 (by decide) (fun c_25 => ?_) (fun c_25 => ?_)
          · have E := x_pos E c_25
            refine lv_iinc (v := nI (k2_8 + 1)) (lv' := [(2, .int (nI (k2_8 + 1))), (0, .ref tA), (1, .int (nI j_7))]) hx hb dX5_pricks_61 hl (k := 2) rfl (nI_1 k2_8) (by decide) rfl (fun ls hl => ?_)
            refine lv_goto (tgt := 14) hx hb dX5_pricks_64 (by decide) ?_
            exact ih_14 (k2_8 + 1) t_when_16 t_most_17 t_mostAt_18 t_hiss_19 t_row_20 (by first | omega | assumption | exact Eq.trans (by assumption) (by assumption)) (by omega) E H locs ls hP hD hS (lv_sub hl [1, 2, 0] rfl)
          · have E := x_neg E c_25
            refine lv_aload_n hx hb dX5_pricks_29 rfl (lv_at hl 0 rfl) ?_
            refine lv_iconst (v := 0) hx hb dX5_pricks_30 (by decide) ?_
            refine x_callVv (w2 := fun u => [(tA, .inr (5, [.int (nI t_length), .ref tA_text, .int (nI t_at), .int (nI t_begin), .int t_told, .ref tA_is, .ref tA_doings, .ref tA_doing, .int t_items, .ref tA_row, .ref tA_isKept, .int u.1, .int u.2.1, .int u.2.2.1, .int u.2.2.2.1, .ref tA_best, .ref tA_heats, .ref tA_orders, .ref tA_has, .int (nI t_tests), .ref tA_salt, .ref tA_crumbs, .long t_traced, .int t_hasSkin, .int t_hasBend])), (tA_is, .inl (g.2.1 0, 18, .inl t_is)), (tA_doings, .inl (g.2.1 0, 2, .inl t_doings)), (tA_doing, .inl (g.2.1 0, 72, .inl t_doing)), (tA_row, .inl (g.2.1 0, 80, .inl u.2.2.2.2))]) (wr := [(tA_doings, .inl (g.2.1 0, 2, .inl t_doings)), (tA_doing, .inl (g.2.1 0, 72, .inl t_doing))]) [0, 1, 4] [2, 3] [2, 3, 0, 1, 4] 0 5 ⟨hx, hb, hml, hown, hts⟩ hK hX hP hD hS hA (m_X5_fresh l g tA tA_is tA_row tA_text tA_doings tA_doing tA_isKept tA_best tA_heats tA_orders tA_has tA_salt tA_crumbs t_length t_at t_begin t_told t_items t_when_16 t_most_17 t_mostAt_18 t_hiss_19 t_tests t_traced t_hasSkin t_hasBend t_is t_row_20 0) (cwV 1 hts (x_gV kw_608 kw_609 kw_610 kw_5 kw_611) rfl rfl rfl vX5_fresh ⟨Nat.le_of_ble_eq_true rfl, Nat.le_of_ble_eq_true rfl⟩) rfl rfl rfl rfl rfl rfl rfl (by decide) (fun _ => rfl) rfl rfl hl.1 rfl (Nat.le_of_ble_eq_true rfl) dX5_pricks_31 ⟨Nat.zero_le _, Nat.zero_le _⟩ (fun u H locs hw_31 hP hD hS => ?_)
            obtain ⟨t_when_26, t_most_27, t_mostAt_28, t_hiss_29, t_row_30⟩ := u
            have hP : va_P g.1 vwCl [(tA, .inr (5, [.int (nI t_length), .ref tA_text, .int (nI t_at), .int (nI t_begin), .int t_told, .ref tA_is, .ref tA_doings, .ref tA_doing, .int t_items, .ref tA_row, .ref tA_isKept, .int t_when_26, .int t_most_27, .int t_mostAt_28, .int t_hiss_29, .ref tA_best, .ref tA_heats, .ref tA_orders, .ref tA_has, .int (nI t_tests), .ref tA_salt, .ref tA_crumbs, .long t_traced, .int t_hasSkin, .int t_hasBend])), (tA_is, .inl (g.2.1 0, 18, .inl t_is)), (tA_doings, .inl (g.2.1 0, 2, .inl t_doings)), (tA_doing, .inl (g.2.1 0, 72, .inl t_doing)), (tA_row, .inl (g.2.1 0, 80, .inl t_row_30))] H := hP
            have hD : va_D A [(tA, .inr (5, [.int (nI t_length), .ref tA_text, .int (nI t_at), .int (nI t_begin), .int t_told, .ref tA_is, .ref tA_doings, .ref tA_doing, .int t_items, .ref tA_row, .ref tA_isKept, .int t_when_26, .int t_most_27, .int t_mostAt_28, .int t_hiss_29, .ref tA_best, .ref tA_heats, .ref tA_orders, .ref tA_has, .int (nI t_tests), .ref tA_salt, .ref tA_crumbs, .long t_traced, .int t_hasSkin, .int t_hasBend])), (tA_is, .inl (g.2.1 0, 18, .inl t_is)), (tA_doings, .inl (g.2.1 0, 2, .inl t_doings)), (tA_doing, .inl (g.2.1 0, 72, .inl t_doing)), (tA_row, .inl (g.2.1 0, 80, .inl t_row_30))] := hD
            have E := x_nm_eq E hw_31
            refine lv_aload_n hx hb dX5_pricks_34 rfl (lv_at hl 0 rfl) ?_
            refine lv_iconst (v := 3) hx hb dX5_pricks_35 (by decide) ?_
            refine lv_iload_n hx hb dX5_pricks_36 rfl (lv_at hl 2 rfl) ?_
            refine x_callVv (w2 := fun u => [(tA, .inr (5, [.int (nI t_length), .ref tA_text, .int (nI t_at), .int (nI t_begin), .int t_told, .ref tA_is, .ref tA_doings, .ref tA_doing, .int t_items, .ref tA_row, .ref tA_isKept, .int t_when_26, .int t_most_27, .int t_mostAt_28, .int t_hiss_29, .ref tA_best, .ref tA_heats, .ref tA_orders, .ref tA_has, .int (nI t_tests), .ref tA_salt, .ref tA_crumbs, .long t_traced, .int t_hasSkin, .int t_hasBend])), (tA_is, .inl (g.2.1 0, 18, .inl t_is)), (tA_doings, .inl (g.2.1 0, 2, .inl t_doings)), (tA_doing, .inl (g.2.1 0, 72, .inl t_doing)), (tA_row, .inl (g.2.1 0, 80, .inl u))]) (wr := [(tA_is, .inl (g.2.1 0, 18, .inl t_is)), (tA_doings, .inl (g.2.1 0, 2, .inl t_doings)), (tA_doing, .inl (g.2.1 0, 72, .inl t_doing))]) [0, 4] [1, 2, 3] [3, 0, 1, 2, 4] 0 5 ⟨hx, hb, hml, hown, hts⟩ hK hX hP hD hS hA (m_X5_pricked l g tA tA_row tA_text tA_is tA_doings tA_doing tA_isKept tA_best tA_heats tA_orders tA_has tA_salt tA_crumbs t_length t_at t_begin t_told t_items t_when_26 t_most_27 t_mostAt_28 t_hiss_29 t_tests t_traced t_hasSkin t_hasBend t_row_30 3 (nI k2_8) (by first | assumption | omega | exact x_e8 (by assumption) (by assumption))) (cwV 2 hts (x_gV kw_502 kw_503 kw_504 kw_5 kw_505) rfl rfl rfl vX5_pricked ⟨Nat.le_of_ble_eq_true rfl, Nat.le_of_ble_eq_true rfl⟩) rfl rfl rfl rfl rfl rfl rfl (by decide) (fun _ => rfl) rfl rfl hl.1 rfl (Nat.le_of_ble_eq_true rfl) dX5_pricks_37 ⟨Nat.zero_le _, Nat.zero_le _⟩ (fun t_row_33 H locs hw_34 hP hD hS => ?_)
            have hP : va_P g.1 vwCl [(tA, .inr (5, [.int (nI t_length), .ref tA_text, .int (nI t_at), .int (nI t_begin), .int t_told, .ref tA_is, .ref tA_doings, .ref tA_doing, .int t_items, .ref tA_row, .ref tA_isKept, .int t_when_26, .int t_most_27, .int t_mostAt_28, .int t_hiss_29, .ref tA_best, .ref tA_heats, .ref tA_orders, .ref tA_has, .int (nI t_tests), .ref tA_salt, .ref tA_crumbs, .long t_traced, .int t_hasSkin, .int t_hasBend])), (tA_is, .inl (g.2.1 0, 18, .inl t_is)), (tA_doings, .inl (g.2.1 0, 2, .inl t_doings)), (tA_doing, .inl (g.2.1 0, 72, .inl t_doing)), (tA_row, .inl (g.2.1 0, 80, .inl t_row_33))] H := hP
            have hD : va_D A [(tA, .inr (5, [.int (nI t_length), .ref tA_text, .int (nI t_at), .int (nI t_begin), .int t_told, .ref tA_is, .ref tA_doings, .ref tA_doing, .int t_items, .ref tA_row, .ref tA_isKept, .int t_when_26, .int t_most_27, .int t_mostAt_28, .int t_hiss_29, .ref tA_best, .ref tA_heats, .ref tA_orders, .ref tA_has, .int (nI t_tests), .ref tA_salt, .ref tA_crumbs, .long t_traced, .int t_hasSkin, .int t_hasBend])), (tA_is, .inl (g.2.1 0, 18, .inl t_is)), (tA_doings, .inl (g.2.1 0, 2, .inl t_doings)), (tA_doing, .inl (g.2.1 0, 72, .inl t_doing)), (tA_row, .inl (g.2.1 0, 80, .inl t_row_33))] := hD
            have E := x_nm_eq E hw_34
            refine lv_aload_n hx hb dX5_pricks_40 rfl (lv_at hl 0 rfl) ?_
            refine lv_iconst (v := 0) hx hb dX5_pricks_41 (by decide) ?_
            refine x_callVv (w2 := fun u => [(tA, .inr (5, [.int (nI t_length), .ref tA_text, .int (nI t_at), .int (nI t_begin), .int t_told, .ref tA_is, .ref tA_doings, .ref tA_doing, .int t_items, .ref tA_row, .ref tA_isKept, .int u.1, .int u.2.1, .int u.2.2.1, .int u.2.2.2.1, .ref tA_best, .ref tA_heats, .ref tA_orders, .ref tA_has, .int (nI t_tests), .ref tA_salt, .ref tA_crumbs, .long t_traced, .int t_hasSkin, .int t_hasBend])), (tA_is, .inl (g.2.1 0, 18, .inl t_is)), (tA_doings, .inl (g.2.1 0, 2, .inl t_doings)), (tA_doing, .inl (g.2.1 0, 72, .inl t_doing)), (tA_row, .inl (g.2.1 0, 80, .inl u.2.2.2.2))]) (wr := []) [0, 1, 2, 3, 4] [] [0, 1, 2, 3, 4] 0 5 ⟨hx, hb, hml, hown, hts⟩ hK hX hP hD hS hA (m_X5_plan l g tA tA_is tA_doings tA_doing tA_row tA_text tA_isKept tA_best tA_heats tA_orders tA_has tA_salt tA_crumbs t_length t_at t_begin t_told t_items t_when_26 t_most_27 t_mostAt_28 t_hiss_29 t_tests t_traced t_hasSkin t_hasBend t_is t_doings t_doing t_row_33 0 (by first | assumption | omega | exact x_e8 (by assumption) (by assumption)) (by first | assumption | omega | exact x_e8 (by assumption) (by assumption)) (by first | assumption | omega | exact x_e8 (by assumption) (by assumption)) (by first | assumption | omega | exact x_e8 (by assumption) (by assumption))) (cwV 1 hts (x_gV kw_612 kw_613 kw_614 kw_5 kw_615) rfl rfl rfl vX5_plan ⟨Nat.le_of_ble_eq_true rfl, Nat.le_of_ble_eq_true rfl⟩) rfl rfl rfl rfl rfl rfl rfl (by decide) (fun _ => rfl) rfl rfl hl.1 rfl (Nat.le_of_ble_eq_true rfl) dX5_pricks_42 ⟨Nat.zero_le _, Nat.zero_le _⟩ (fun u H locs hw_41 hP hD hS => ?_)
            obtain ⟨t_when_36, t_most_37, t_mostAt_38, t_hiss_39, t_row_40⟩ := u
            have hP : va_P g.1 vwCl [(tA, .inr (5, [.int (nI t_length), .ref tA_text, .int (nI t_at), .int (nI t_begin), .int t_told, .ref tA_is, .ref tA_doings, .ref tA_doing, .int t_items, .ref tA_row, .ref tA_isKept, .int t_when_36, .int t_most_37, .int t_mostAt_38, .int t_hiss_39, .ref tA_best, .ref tA_heats, .ref tA_orders, .ref tA_has, .int (nI t_tests), .ref tA_salt, .ref tA_crumbs, .long t_traced, .int t_hasSkin, .int t_hasBend])), (tA_is, .inl (g.2.1 0, 18, .inl t_is)), (tA_doings, .inl (g.2.1 0, 2, .inl t_doings)), (tA_doing, .inl (g.2.1 0, 72, .inl t_doing)), (tA_row, .inl (g.2.1 0, 80, .inl t_row_40))] H := hP
            have hD : va_D A [(tA, .inr (5, [.int (nI t_length), .ref tA_text, .int (nI t_at), .int (nI t_begin), .int t_told, .ref tA_is, .ref tA_doings, .ref tA_doing, .int t_items, .ref tA_row, .ref tA_isKept, .int t_when_36, .int t_most_37, .int t_mostAt_38, .int t_hiss_39, .ref tA_best, .ref tA_heats, .ref tA_orders, .ref tA_has, .int (nI t_tests), .ref tA_salt, .ref tA_crumbs, .long t_traced, .int t_hasSkin, .int t_hasBend])), (tA_is, .inl (g.2.1 0, 18, .inl t_is)), (tA_doings, .inl (g.2.1 0, 2, .inl t_doings)), (tA_doing, .inl (g.2.1 0, 72, .inl t_doing)), (tA_row, .inl (g.2.1 0, 80, .inl t_row_40))] := hD
            have E := x_nm_eq E hw_41
            refine lv_iload_n hx hb dX5_pricks_45 rfl (lv_at hl 1 rfl) ?_
            obtain ⟨o_44, E_44, E⟩ := x_nm_ex E
            have J_44 : ∀ (v_43 : Int32), o_44 = v_43 → ∀ (H : Heap) (locs : List Loc) (ls : Array Slot), va_P g.1 vwCl [(tA, .inr (5, [.int (nI t_length), .ref tA_text, .int (nI t_at), .int (nI t_begin), .int t_told, .ref tA_is, .ref tA_doings, .ref tA_doing, .int t_items, .ref tA_row, .ref tA_isKept, .int t_when_36, .int t_most_37, .int t_mostAt_38, .int t_hiss_39, .ref tA_best, .ref tA_heats, .ref tA_orders, .ref tA_has, .int (nI t_tests), .ref tA_salt, .ref tA_crumbs, .long t_traced, .int t_hasSkin, .int t_hasBend])), (tA_is, .inl (g.2.1 0, 18, .inl t_is)), (tA_doings, .inl (g.2.1 0, 2, .inl t_doings)), (tA_doing, .inl (g.2.1 0, 72, .inl t_doing)), (tA_row, .inl (g.2.1 0, 80, .inl t_row_40))] H → va_D A [(tA, .inr (5, [.int (nI t_length), .ref tA_text, .int (nI t_at), .int (nI t_begin), .int t_told, .ref tA_is, .ref tA_doings, .ref tA_doing, .int t_items, .ref tA_row, .ref tA_isKept, .int t_when_36, .int t_most_37, .int t_mostAt_38, .int t_hiss_39, .ref tA_best, .ref tA_heats, .ref tA_orders, .ref tA_has, .int (nI t_tests), .ref tA_salt, .ref tA_crumbs, .long t_traced, .int t_hasSkin, .int t_hasBend])), (tA_is, .inl (g.2.1 0, 18, .inl t_is)), (tA_doings, .inl (g.2.1 0, 2, .inl t_doings)), (tA_doing, .inl (g.2.1 0, 72, .inl t_doing)), (tA_row, .inl (g.2.1 0, 80, .inl t_row_40))] → va_S A s.heap H locs → lv_has ls 3 [] → W p l e rX5_pricks s m args below meth c H locs 0 0 Q (F0 m 60 ls [.int v_43]) := by
              intro v_43 hE  H locs ls hP hD hS hl
              try rw [hE] at E
              exact RET v_43 (t_when_36, t_most_37, t_mostAt_38, t_hiss_39, t_row_40) H locs _ _ (E.symm.trans hO) rfl hP hD hS dX5_pricks_60
            have E := E_44
            refine x_if_ne (a := j_7) (tgt := 53) hx hb (by omega) dX5_pricks_46 (by decide) (fun c_45 => ?_) (fun c_45 => ?_)
            · have E := x_neg E c_45
              refine lv_aload_n hx hb dX5_pricks_53 rfl (lv_at hl 0 rfl) ?_
              refine va_get (ci := 5) (v := .ref tA_row) (C := RX5) (T := TX5) (N := 25) hx hb hts inlX5 hown hK.1 hP 0 rfl rfl 9 (by decide) (hts _ kw_97) (fun _ h9 => h9) rfl dX5_pricks_54 ?_
              refine lv_bipush (v := 69) hx hb dX5_pricks_57 (by decide) ?_
              refine x_ialdN hx hb hK hP 4 69 rfl (by omega) (by decide) dX5_pricks_59 ?_
              exact J_44 (t_row_40 69) E  H locs ls hP hD hS (lv_sub hl [] rfl)
            · have E := x_pos E c_45
              refine lv_iload_n hx hb dX5_pricks_49 rfl (lv_at hl 2 rfl) ?_
              refine lv_goto (tgt := 60) hx hb dX5_pricks_50 (by decide) ?_
              exact J_44 (nI k2_8) E  H locs ls hP hD hS (lv_sub hl [] rfl)
    exact L_14 (10 + 1) 0 t_when t_most t_mostAt t_hiss t_row (by first | omega | assumption | rfl) (by omega) E H locs ls hP hD hS (lv_sub hl [1, 2, 0] rfl)
  · have E := x_pos E c_5
    refine lv_iconst (v := (-1)) hx hb dX5_pricks_10 (by decide) ?_
    exact RET (-1) (t_when, t_most, t_mostAt, t_hiss, t_row) H locs _ _ (E.symm.trans hO) rfl hP hD hS dX5_pricks_11
abbrev rX5_simmered : Room := { frames := 5, cells := 0, slots := 0, locals := 131 }
theorem vX5_simmered : yX5_simmered.cls = RX5 ∧ yX5_simmered.cls ≠ "java/lang/invoke/MethodHandle" ∧ yX5_simmered.cls ≠ "java/lang/invoke/VarHandle" ∧ (parseMethodDescriptor yX5_simmered.desc).map (fun d => d.parameters.length) = some 1 := by decide +kernel
abbrev wX5_simmered : List Cond := Cond.code yX5_simmered cX5_simmered 4 (some .int) :: wsL_law
def F_X5_simmered_L18 (t_is : Nat → Int32) (t_doings : Nat → Int32) (t_doing : Nat → Int32) (j_7 : Nat) : Nat → Int32 → Nat → Int32 → Int32 → Int32 → Int32 → (Nat → Int32) → Int32 × Int32 × Int32 × Int32 × Int32 × (Nat → Int32)
  | 0, l2_15, k3_16, t_when_17, t_most_18, t_mostAt_19, t_hiss_20, t_row_21 => (l2_15, t_when_17, t_most_18, t_mostAt_19, t_hiss_20, t_row_21)
  | n_22 + 1, l2_15, k3_16, t_when_17, t_most_18, t_mostAt_19, t_hiss_20, t_row_21 => if 100 < k3_16 then (l2_15, t_when_17, t_most_18, t_mostAt_19, t_hiss_20, t_row_21) else x_nm (α := Int32 × Int32 × Int32 × Int32 × Int32 × (Nat → Int32)) (if j_7 = 1 then x_nm (F_X5_holdsAll t_is t_doings t_doing t_row_21 t_when_17 t_most_18 t_mostAt_19 t_hiss_20 0 (nI k3_16)) fun u_40 => if u_40.1 = 0 then (l2_15, u_40.2.1, u_40.2.2.1, u_40.2.2.2.1, u_40.2.2.2.2.1, u_40.2.2.2.2.2) else (nI k3_16, u_40.2.1, u_40.2.2.1, u_40.2.2.2.1, u_40.2.2.2.2.1, u_40.2.2.2.2.2) else if 0 ≤ l2_15 then (l2_15, t_when_17, t_most_18, t_mostAt_19, t_hiss_20, t_row_21) else x_nm (F_X5_holdsAll t_is t_doings t_doing t_row_21 t_when_17 t_most_18 t_mostAt_19 t_hiss_20 0 (nI k3_16)) fun u_51 => if u_51.1 = 0 then (l2_15, u_51.2.1, u_51.2.2.1, u_51.2.2.2.1, u_51.2.2.2.2.1, u_51.2.2.2.2.2) else (nI k3_16, u_51.2.1, u_51.2.2.1, u_51.2.2.2.1, u_51.2.2.2.2.1, u_51.2.2.2.2.2)) fun u_30 => F_X5_simmered_L18 t_is t_doings t_doing j_7 n_22 u_30.1 (k3_16 + 1) u_30.2.1 u_30.2.2.1 u_30.2.2.2.1 u_30.2.2.2.2.1 u_30.2.2.2.2.2
def F_X5_simmered (t_is : Nat → Int32) (t_doings : Nat → Int32) (t_doing : Nat → Int32) (t_row : Nat → Int32) (t_when : Int32) (t_most : Int32) (t_mostAt : Int32) (t_hiss : Int32) (a1 : Int32) : Int32 × Int32 × Int32 × Int32 × Int32 × (Nat → Int32) :=
  x_nm (F_X5_in a1.toInt64 0 1) fun z_1 => if z_1 = 0 then ((-1), t_when, t_most, t_mostAt, t_hiss, t_row) else x_nm (a1.toNatClampNeg) fun j_7 => x_nm (α := Int32 × Int32 × Int32 × Int32 × Int32 × (Nat → Int32)) (F_X5_simmered_L18 t_is t_doings t_doing j_7 (101 + 1) (-9) 60 t_when t_most t_mostAt t_hiss t_row) fun u_14 => (u_14.1, u_14.2.1, u_14.2.2.1, u_14.2.2.2.1, u_14.2.2.2.2.1, u_14.2.2.2.2.2)
set_option maxHeartbeats 4000000 in
set_option maxRecDepth 100000 in
theorem m_X5_simmered (l : Launch) (g : x_G) (tA tA_is tA_doings tA_doing tA_row tA_text tA_isKept tA_best tA_heats tA_orders tA_has tA_salt tA_crumbs : Nat) (t_length : Nat) (t_at : Nat) (t_begin : Nat) (t_told : Int32) (t_items : Int32) (t_when : Int32) (t_most : Int32) (t_mostAt : Int32) (t_hiss : Int32) (t_tests : Nat) (t_traced : Int64) (t_hasSkin : Int32) (t_hasBend : Int32) (t_is : Nat → Int32) (t_doings : Nat → Int32) (t_doing : Nat → Int32) (t_row : Nat → Int32) (a1 : Int32) (h_0 : (t_doings 0).toNatClampNeg ≤ 12) (h_1 : t_doings 0 = nI (t_doings 0).toNatClampNeg) (h_2 : ∀ k : Nat, k < 12 → (t_doing (3 * k + 2)).toNatClampNeg ≤ 99 ∧ t_doing (3 * k + 2) = nI (t_doing (3 * k + 2)).toNatClampNeg) (h_3 : ¬ 8 * t_is 0 = 0) : x_MetI l yX5_simmered wX5_simmered rX5_simmered g [.ref tA, .int a1] [(tA, .inr (5, [.int (nI t_length), .ref tA_text, .int (nI t_at), .int (nI t_begin), .int t_told, .ref tA_is, .ref tA_doings, .ref tA_doing, .int t_items, .ref tA_row, .ref tA_isKept, .int t_when, .int t_most, .int t_mostAt, .int t_hiss, .ref tA_best, .ref tA_heats, .ref tA_orders, .ref tA_has, .int (nI t_tests), .ref tA_salt, .ref tA_crumbs, .long t_traced, .int t_hasSkin, .int t_hasBend])), (tA_is, .inl (g.2.1 0, 18, .inl t_is)), (tA_doings, .inl (g.2.1 0, 2, .inl t_doings)), (tA_doing, .inl (g.2.1 0, 72, .inl t_doing)), (tA_row, .inl (g.2.1 0, 80, .inl t_row))] (fun (r : Int32) (u : Int32 × Int32 × Int32 × Int32 × (Nat → Int32)) => (r, u) = F_X5_simmered t_is t_doings t_doing t_row t_when t_most t_mostAt t_hiss a1) (fun u => [(tA, .inr (5, [.int (nI t_length), .ref tA_text, .int (nI t_at), .int (nI t_begin), .int t_told, .ref tA_is, .ref tA_doings, .ref tA_doing, .int t_items, .ref tA_row, .ref tA_isKept, .int u.1, .int u.2.1, .int u.2.2.1, .int u.2.2.2.1, .ref tA_best, .ref tA_heats, .ref tA_orders, .ref tA_has, .int (nI t_tests), .ref tA_salt, .ref tA_crumbs, .long t_traced, .int t_hasSkin, .int t_hasBend])), (tA_is, .inl (g.2.1 0, 18, .inl t_is)), (tA_doings, .inl (g.2.1 0, 2, .inl t_doings)), (tA_doing, .inl (g.2.1 0, 72, .inl t_doing)), (tA_row, .inl (g.2.1 0, 80, .inl u.2.2.2.2))]) := by
  refine x_startI (cc := cX5_simmered) (maxL := 4) (by decide) rfl (Nat.le_of_ble_eq_true rfl) ?_
  intro p e s m args below meth c Q A ls H locs hx hb hml hown hts hK hX hP hD hS hA hl RET
  have hown : s.vm.findClass RX5 = some m.cls := hown
  have hl : lv_has ls 4 [(0, .ref tA), (1, .int a1)] := hl
  obtain ⟨o_0, hO⟩ : ∃ z, z = F_X5_simmered t_is t_doings t_doing t_row t_when t_most t_mostAt t_hiss a1 := ⟨_, rfl⟩
  have E := hO
  rw [F_X5_simmered.eq_1] at E
  refine lv_iload_n hx hb dX5_simmered_0 rfl (lv_at hl 1 rfl) ?_
  refine lv_i2l (v := a1.toInt64) hx hb dX5_simmered_1 rfl ?_
  refine lv_lconst (v := 0) hx hb dX5_simmered_2 (by decide) ?_
  refine lv_lconst (v := 1) hx hb dX5_simmered_3 (by decide) ?_
  refine x_callS0 ⟨hx, hb, hml, hown, hts⟩ hK hX hP hD hS hA (m_X5_in l g a1.toInt64 0 1) (va_cwS 3 hts (x_gS kw_129 kw_130 kw_5 kw_131) rfl rfl rfl vX5_inS ⟨Nat.le_of_ble_eq_true rfl, Nat.le_of_ble_eq_true rfl⟩) rfl hl.1 rfl (Nat.le_of_ble_eq_true rfl) dX5_simmered_4 ⟨Nat.zero_le _, Nat.zero_le _⟩ (fun z_1 _ H locs hw_2 hP hD hS => ?_)
  obtain ⟨hw_2, b_3⟩ := hw_2
  have E := x_nm_eq E hw_2
  refine x_if_neI (tgt := 12) hx hb dX5_simmered_7 (by decide) (fun c_5 => ?_) (fun c_5 => ?_)
  · have E := x_neg E c_5
    obtain ⟨j_7, hj⟩ : ∃ z, z = (a1).toNatClampNeg := ⟨_, rfl⟩
    have r_6_0 := (x_ins (lo := 0) (hi := 1) (by omega) (by omega) (fun q => c_5 (hw_2.trans q)))
    rw [← hj] at r_6_0
    obtain ⟨r_6_0_a, r_6_0_b, e_6_0⟩ := r_6_0
    have E := x_nm_eq E hj
    have hl : lv_has ls 4 [(0, .ref tA), (1, .int (nI j_7))] := by rw [e_6_0] at hl; exact hl
    refine lv_bipush (v := (-9)) hx hb dX5_simmered_12 (by decide) ?_
    refine lv_istore_n (lv' := [(2, .int (-9)), (0, .ref tA), (1, .int (nI j_7))]) hx hb dX5_simmered_14 rfl hl (by decide) rfl (fun ls hl => ?_)
    refine lv_bipush (v := 60) hx hb dX5_simmered_15 (by decide) ?_
    refine lv_istore_n (lv' := [(3, .int 60), (2, .int (-9)), (0, .ref tA), (1, .int (nI j_7))]) hx hb dX5_simmered_17 rfl hl (by decide) rfl (fun ls hl => ?_)
    obtain ⟨o_14, E_14, E⟩ := x_nm_ex E
    have J_14 : ∀ (l2_8 : Int32) (t_when_9 : Int32) (t_most_10 : Int32) (t_mostAt_11 : Int32) (t_hiss_12 : Int32) (t_row_13 : Nat → Int32), o_14 = (l2_8, t_when_9, t_most_10, t_mostAt_11, t_hiss_12, t_row_13) → ∀ (H : Heap) (locs : List Loc) (ls : Array Slot), va_P g.1 vwCl [(tA, .inr (5, [.int (nI t_length), .ref tA_text, .int (nI t_at), .int (nI t_begin), .int t_told, .ref tA_is, .ref tA_doings, .ref tA_doing, .int t_items, .ref tA_row, .ref tA_isKept, .int t_when_9, .int t_most_10, .int t_mostAt_11, .int t_hiss_12, .ref tA_best, .ref tA_heats, .ref tA_orders, .ref tA_has, .int (nI t_tests), .ref tA_salt, .ref tA_crumbs, .long t_traced, .int t_hasSkin, .int t_hasBend])), (tA_is, .inl (g.2.1 0, 18, .inl t_is)), (tA_doings, .inl (g.2.1 0, 2, .inl t_doings)), (tA_doing, .inl (g.2.1 0, 72, .inl t_doing)), (tA_row, .inl (g.2.1 0, 80, .inl t_row_13))] H → va_D A [(tA, .inr (5, [.int (nI t_length), .ref tA_text, .int (nI t_at), .int (nI t_begin), .int t_told, .ref tA_is, .ref tA_doings, .ref tA_doing, .int t_items, .ref tA_row, .ref tA_isKept, .int t_when_9, .int t_most_10, .int t_mostAt_11, .int t_hiss_12, .ref tA_best, .ref tA_heats, .ref tA_orders, .ref tA_has, .int (nI t_tests), .ref tA_salt, .ref tA_crumbs, .long t_traced, .int t_hasSkin, .int t_hasBend])), (tA_is, .inl (g.2.1 0, 18, .inl t_is)), (tA_doings, .inl (g.2.1 0, 2, .inl t_doings)), (tA_doing, .inl (g.2.1 0, 72, .inl t_doing)), (tA_row, .inl (g.2.1 0, 80, .inl t_row_13))] → va_S A s.heap H locs → lv_has ls 4 [(2, .int l2_8)] → W p l e rX5_simmered s m args below meth c H locs 0 0 Q (F0 m 54 ls []) := by
      intro l2_8 t_when_9 t_most_10 t_mostAt_11 t_hiss_12 t_row_13 hE  H locs ls hP hD hS hl
      try rw [hE] at E
      refine lv_iload_n hx hb dX5_simmered_54 rfl (lv_at hl 0 rfl) ?_
      exact RET l2_8 (t_when_9, t_most_10, t_mostAt_11, t_hiss_12, t_row_13) H locs _ _ (E.symm.trans hO) rfl hP hD hS dX5_simmered_55
    have E := E_14
    have L_22 : ∀ (n_22 : Nat) (l2_15 : Int32) (k3_16 : Nat) (t_when_17 : Int32) (t_most_18 : Int32) (t_mostAt_19 : Int32) (t_hiss_20 : Int32) (t_row_21 : Nat → Int32), (k3_16 ≤ 101) → ((101 - k3_16) < n_22) → o_14 = F_X5_simmered_L18 t_is t_doings t_doing j_7 n_22 l2_15 k3_16 t_when_17 t_most_18 t_mostAt_19 t_hiss_20 t_row_21 → ∀ (H : Heap) (locs : List Loc) (ls : Array Slot), va_P g.1 vwCl [(tA, .inr (5, [.int (nI t_length), .ref tA_text, .int (nI t_at), .int (nI t_begin), .int t_told, .ref tA_is, .ref tA_doings, .ref tA_doing, .int t_items, .ref tA_row, .ref tA_isKept, .int t_when_17, .int t_most_18, .int t_mostAt_19, .int t_hiss_20, .ref tA_best, .ref tA_heats, .ref tA_orders, .ref tA_has, .int (nI t_tests), .ref tA_salt, .ref tA_crumbs, .long t_traced, .int t_hasSkin, .int t_hasBend])), (tA_is, .inl (g.2.1 0, 18, .inl t_is)), (tA_doings, .inl (g.2.1 0, 2, .inl t_doings)), (tA_doing, .inl (g.2.1 0, 72, .inl t_doing)), (tA_row, .inl (g.2.1 0, 80, .inl t_row_21))] H → va_D A [(tA, .inr (5, [.int (nI t_length), .ref tA_text, .int (nI t_at), .int (nI t_begin), .int t_told, .ref tA_is, .ref tA_doings, .ref tA_doing, .int t_items, .ref tA_row, .ref tA_isKept, .int t_when_17, .int t_most_18, .int t_mostAt_19, .int t_hiss_20, .ref tA_best, .ref tA_heats, .ref tA_orders, .ref tA_has, .int (nI t_tests), .ref tA_salt, .ref tA_crumbs, .long t_traced, .int t_hasSkin, .int t_hasBend])), (tA_is, .inl (g.2.1 0, 18, .inl t_is)), (tA_doings, .inl (g.2.1 0, 2, .inl t_doings)), (tA_doing, .inl (g.2.1 0, 72, .inl t_doing)), (tA_row, .inl (g.2.1 0, 80, .inl t_row_21))] → va_S A s.heap H locs → lv_has ls 4 [(0, .ref tA), (1, .int (nI j_7)), (2, .int l2_15), (3, .int (nI k3_16))] → W p l e rX5_simmered s m args below meth c H locs 0 0 Q (F0 m 18 ls []) := by
      intro n_22
      induction n_22 with
      | zero => intro l2_15 k3_16 t_when_17 t_most_18 t_mostAt_19 t_hiss_20 t_row_21 i_22_0 i_22_1; exact absurd i_22_1 (by omega)
      | succ n_22 ih_22 =>
        intro l2_15 k3_16 t_when_17 t_most_18 t_mostAt_19 t_hiss_20 t_row_21 i_22_0 i_22_1 E H locs ls hP hD hS hl
        rw [F_X5_simmered_L18.eq_2] at E
        refine lv_iload_n hx hb dX5_simmered_18 rfl (lv_at hl 3 rfl) ?_
        refine lv_bipush (v := 100) hx hb dX5_simmered_19 (by decide) ?_
        refine x_icmp_gt (a := k3_16) (b := 100) (tgt := 54) hx hb (by omega) (by omega) dX5_simmered_21 (by decide) (fun c_23 => ?_) (fun c_23 => ?_)
        · have E := x_pos E c_23
          exact J_14 l2_15 t_when_17 t_most_18 t_mostAt_19 t_hiss_20 t_row_21 E  H locs ls hP hD hS (lv_sub hl [2] rfl)
        · have E := x_neg E c_23
          refine lv_iload_n hx hb dX5_simmered_24 rfl (lv_at hl 1 rfl) ?_
          refine lv_iconst (v := 1) hx hb dX5_simmered_25 (by decide) ?_
          obtain ⟨o_30, E_30, E⟩ := x_nm_ex E
          have J_30 : ∀ (v_24 : Int32) (t_when_25 : Int32) (t_most_26 : Int32) (t_mostAt_27 : Int32) (t_hiss_28 : Int32) (t_row_29 : Nat → Int32), o_30 = (v_24, t_when_25, t_most_26, t_mostAt_27, t_hiss_28, t_row_29) → ∀ (H : Heap) (locs : List Loc) (ls : Array Slot), va_P g.1 vwCl [(tA, .inr (5, [.int (nI t_length), .ref tA_text, .int (nI t_at), .int (nI t_begin), .int t_told, .ref tA_is, .ref tA_doings, .ref tA_doing, .int t_items, .ref tA_row, .ref tA_isKept, .int t_when_25, .int t_most_26, .int t_mostAt_27, .int t_hiss_28, .ref tA_best, .ref tA_heats, .ref tA_orders, .ref tA_has, .int (nI t_tests), .ref tA_salt, .ref tA_crumbs, .long t_traced, .int t_hasSkin, .int t_hasBend])), (tA_is, .inl (g.2.1 0, 18, .inl t_is)), (tA_doings, .inl (g.2.1 0, 2, .inl t_doings)), (tA_doing, .inl (g.2.1 0, 72, .inl t_doing)), (tA_row, .inl (g.2.1 0, 80, .inl t_row_29))] H → va_D A [(tA, .inr (5, [.int (nI t_length), .ref tA_text, .int (nI t_at), .int (nI t_begin), .int t_told, .ref tA_is, .ref tA_doings, .ref tA_doing, .int t_items, .ref tA_row, .ref tA_isKept, .int t_when_25, .int t_most_26, .int t_mostAt_27, .int t_hiss_28, .ref tA_best, .ref tA_heats, .ref tA_orders, .ref tA_has, .int (nI t_tests), .ref tA_salt, .ref tA_crumbs, .long t_traced, .int t_hasSkin, .int t_hasBend])), (tA_is, .inl (g.2.1 0, 18, .inl t_is)), (tA_doings, .inl (g.2.1 0, 2, .inl t_doings)), (tA_doing, .inl (g.2.1 0, 72, .inl t_doing)), (tA_row, .inl (g.2.1 0, 80, .inl t_row_29))] → va_S A s.heap H locs → lv_has ls 4 [(0, .ref tA), (1, .int (nI j_7)), (3, .int (nI k3_16))] → W p l e rX5_simmered s m args below meth c H locs 0 0 Q (F0 m 47 ls [.int v_24]) := by
            intro v_24 t_when_25 t_most_26 t_mostAt_27 t_hiss_28 t_row_29 hE  H locs ls hP hD hS hl
            try rw [hE] at E
            refine lv_istore_n (lv' := [(2, .int v_24), (0, .ref tA), (1, .int (nI j_7)), (3, .int (nI k3_16))]) hx hb dX5_simmered_47 rfl hl (by decide) rfl (fun ls hl => ?_)
            refine lv_iinc (v := nI (k3_16 + 1)) (lv' := [(3, .int (nI (k3_16 + 1))), (2, .int v_24), (0, .ref tA), (1, .int (nI j_7))]) hx hb dX5_simmered_48 hl (k := 3) rfl (nI_1 k3_16) (by decide) rfl (fun ls hl => ?_)
            refine lv_goto (tgt := 18) hx hb dX5_simmered_51 (by decide) ?_
            exact ih_22 v_24 (k3_16 + 1) t_when_25 t_most_26 t_mostAt_27 t_hiss_28 t_row_29 (by first | omega | assumption | exact Eq.trans (by assumption) (by assumption)) (by omega) E H locs ls hP hD hS (lv_sub hl [2, 3, 1, 0] rfl)
          have E := E_30
          refine x_icmp_eq (a := j_7) (b := 1) (tgt := 33) hx hb (by omega) (by omega) dX5_simmered_26 (by decide) (fun c_31 => ?_) (fun c_31 => ?_)
          · have E := x_pos E c_31
            refine lv_aload_n hx hb dX5_simmered_33 rfl (lv_at hl 0 rfl) ?_
            refine lv_iconst (v := 0) hx hb dX5_simmered_34 (by decide) ?_
            refine lv_iload_n hx hb dX5_simmered_35 rfl (lv_at hl 3 rfl) ?_
            refine x_callVi (w2 := fun u => [(tA, .inr (5, [.int (nI t_length), .ref tA_text, .int (nI t_at), .int (nI t_begin), .int t_told, .ref tA_is, .ref tA_doings, .ref tA_doing, .int t_items, .ref tA_row, .ref tA_isKept, .int u.1, .int u.2.1, .int u.2.2.1, .int u.2.2.2.1, .ref tA_best, .ref tA_heats, .ref tA_orders, .ref tA_has, .int (nI t_tests), .ref tA_salt, .ref tA_crumbs, .long t_traced, .int t_hasSkin, .int t_hasBend])), (tA_is, .inl (g.2.1 0, 18, .inl t_is)), (tA_doings, .inl (g.2.1 0, 2, .inl t_doings)), (tA_doing, .inl (g.2.1 0, 72, .inl t_doing)), (tA_row, .inl (g.2.1 0, 80, .inl u.2.2.2.2))]) (wr := []) [0, 1, 2, 3, 4] [] [0, 1, 2, 3, 4] 0 5 ⟨hx, hb, hml, hown, hts⟩ hK hX hP hD hS hA (m_X5_holdsAll l g tA tA_is tA_doings tA_doing tA_row tA_text tA_isKept tA_best tA_heats tA_orders tA_has tA_salt tA_crumbs t_length t_at t_begin t_told t_items t_when_17 t_most_18 t_mostAt_19 t_hiss_20 t_tests t_traced t_hasSkin t_hasBend t_is t_doings t_doing t_row_21 0 (nI k3_16) (by first | assumption | omega | exact x_e8 (by assumption) (by assumption)) (by first | assumption | omega | exact x_e8 (by assumption) (by assumption)) (by first | assumption | omega | exact x_e8 (by assumption) (by assumption)) (by first | assumption | omega | exact x_e8 (by assumption) (by assumption))) (cwV 2 hts (x_gV kw_648 kw_649 kw_650 kw_5 kw_651) rfl rfl rfl vX5_holdsAll ⟨Nat.le_of_ble_eq_true rfl, Nat.le_of_ble_eq_true rfl⟩) rfl rfl rfl rfl rfl rfl rfl (by decide) (fun _ => rfl) rfl rfl hl.1 rfl (Nat.le_of_ble_eq_true rfl) dX5_simmered_36 ⟨Nat.zero_le _, Nat.zero_le _⟩ (fun z_37 u H locs hw_38 hP hD hS => ?_)
            obtain ⟨t_when_32, t_most_33, t_mostAt_34, t_hiss_35, t_row_36⟩ := u
            obtain ⟨hw_38, b_39⟩ := hw_38
            have hP : va_P g.1 vwCl [(tA, .inr (5, [.int (nI t_length), .ref tA_text, .int (nI t_at), .int (nI t_begin), .int t_told, .ref tA_is, .ref tA_doings, .ref tA_doing, .int t_items, .ref tA_row, .ref tA_isKept, .int t_when_32, .int t_most_33, .int t_mostAt_34, .int t_hiss_35, .ref tA_best, .ref tA_heats, .ref tA_orders, .ref tA_has, .int (nI t_tests), .ref tA_salt, .ref tA_crumbs, .long t_traced, .int t_hasSkin, .int t_hasBend])), (tA_is, .inl (g.2.1 0, 18, .inl t_is)), (tA_doings, .inl (g.2.1 0, 2, .inl t_doings)), (tA_doing, .inl (g.2.1 0, 72, .inl t_doing)), (tA_row, .inl (g.2.1 0, 80, .inl t_row_36))] H := hP
            have hD : va_D A [(tA, .inr (5, [.int (nI t_length), .ref tA_text, .int (nI t_at), .int (nI t_begin), .int t_told, .ref tA_is, .ref tA_doings, .ref tA_doing, .int t_items, .ref tA_row, .ref tA_isKept, .int t_when_32, .int t_most_33, .int t_mostAt_34, .int t_hiss_35, .ref tA_best, .ref tA_heats, .ref tA_orders, .ref tA_has, .int (nI t_tests), .ref tA_salt, .ref tA_crumbs, .long t_traced, .int t_hasSkin, .int t_hasBend])), (tA_is, .inl (g.2.1 0, 18, .inl t_is)), (tA_doings, .inl (g.2.1 0, 2, .inl t_doings)), (tA_doing, .inl (g.2.1 0, 72, .inl t_doing)), (tA_row, .inl (g.2.1 0, 80, .inl t_row_36))] := hD
            have E := x_nm_eq E hw_38
            refine lv_if_eq (tgt := 46) hx hb dX5_simmered_39 (by decide) (fun c_41 => ?_) (fun c_41 => ?_)
            · have E := x_pos E c_41
              refine lv_iload_n hx hb dX5_simmered_46 rfl (lv_at hl 2 rfl) ?_
              exact J_30 l2_15 t_when_32 t_most_33 t_mostAt_34 t_hiss_35 t_row_36 E  H locs ls hP hD hS (lv_sub hl [0, 1, 3] rfl)
            · have E := x_neg E c_41
              refine lv_iload_n hx hb dX5_simmered_42 rfl (lv_at hl 3 rfl) ?_
              refine lv_goto (tgt := 47) hx hb dX5_simmered_43 (by decide) ?_
              exact J_30 (nI k3_16) t_when_32 t_most_33 t_mostAt_34 t_hiss_35 t_row_36 E  H locs ls hP hD hS (lv_sub hl [0, 1, 3] rfl)
          · have E := x_neg E c_31
            refine lv_iload_n hx hb dX5_simmered_29 rfl (lv_at hl 2 rfl) ?_
            refine lv_if_ge (tgt := 46) hx hb dX5_simmered_30 (by decide) (fun c_42 => ?_) (fun c_42 => ?_)
            · have E := x_pos E c_42
              refine lv_iload_n hx hb dX5_simmered_46 rfl (lv_at hl 2 rfl) ?_
              exact J_30 l2_15 t_when_17 t_most_18 t_mostAt_19 t_hiss_20 t_row_21 E  H locs ls hP hD hS (lv_sub hl [0, 1, 3] rfl)
            · have E := x_neg E c_42
              refine lv_aload_n hx hb dX5_simmered_33 rfl (lv_at hl 0 rfl) ?_
              refine lv_iconst (v := 0) hx hb dX5_simmered_34 (by decide) ?_
              refine lv_iload_n hx hb dX5_simmered_35 rfl (lv_at hl 3 rfl) ?_
              refine x_callVi (w2 := fun u => [(tA, .inr (5, [.int (nI t_length), .ref tA_text, .int (nI t_at), .int (nI t_begin), .int t_told, .ref tA_is, .ref tA_doings, .ref tA_doing, .int t_items, .ref tA_row, .ref tA_isKept, .int u.1, .int u.2.1, .int u.2.2.1, .int u.2.2.2.1, .ref tA_best, .ref tA_heats, .ref tA_orders, .ref tA_has, .int (nI t_tests), .ref tA_salt, .ref tA_crumbs, .long t_traced, .int t_hasSkin, .int t_hasBend])), (tA_is, .inl (g.2.1 0, 18, .inl t_is)), (tA_doings, .inl (g.2.1 0, 2, .inl t_doings)), (tA_doing, .inl (g.2.1 0, 72, .inl t_doing)), (tA_row, .inl (g.2.1 0, 80, .inl u.2.2.2.2))]) (wr := []) [0, 1, 2, 3, 4] [] [0, 1, 2, 3, 4] 0 5 ⟨hx, hb, hml, hown, hts⟩ hK hX hP hD hS hA (m_X5_holdsAll l g tA tA_is tA_doings tA_doing tA_row tA_text tA_isKept tA_best tA_heats tA_orders tA_has tA_salt tA_crumbs t_length t_at t_begin t_told t_items t_when_17 t_most_18 t_mostAt_19 t_hiss_20 t_tests t_traced t_hasSkin t_hasBend t_is t_doings t_doing t_row_21 0 (nI k3_16) (by first | assumption | omega | exact x_e8 (by assumption) (by assumption)) (by first | assumption | omega | exact x_e8 (by assumption) (by assumption)) (by first | assumption | omega | exact x_e8 (by assumption) (by assumption)) (by first | assumption | omega | exact x_e8 (by assumption) (by assumption))) (cwV 2 hts (x_gV kw_648 kw_649 kw_650 kw_5 kw_651) rfl rfl rfl vX5_holdsAll ⟨Nat.le_of_ble_eq_true rfl, Nat.le_of_ble_eq_true rfl⟩) rfl rfl rfl rfl rfl rfl rfl (by decide) (fun _ => rfl) rfl rfl hl.1 rfl (Nat.le_of_ble_eq_true rfl) dX5_simmered_36 ⟨Nat.zero_le _, Nat.zero_le _⟩ (fun z_48 u H locs hw_49 hP hD hS => ?_)
              obtain ⟨t_when_43, t_most_44, t_mostAt_45, t_hiss_46, t_row_47⟩ := u
              obtain ⟨hw_49, b_50⟩ := hw_49
              have hP : va_P g.1 vwCl [(tA, .inr (5, [.int (nI t_length), .ref tA_text, .int (nI t_at), .int (nI t_begin), .int t_told, .ref tA_is, .ref tA_doings, .ref tA_doing, .int t_items, .ref tA_row, .ref tA_isKept, .int t_when_43, .int t_most_44, .int t_mostAt_45, .int t_hiss_46, .ref tA_best, .ref tA_heats, .ref tA_orders, .ref tA_has, .int (nI t_tests), .ref tA_salt, .ref tA_crumbs, .long t_traced, .int t_hasSkin, .int t_hasBend])), (tA_is, .inl (g.2.1 0, 18, .inl t_is)), (tA_doings, .inl (g.2.1 0, 2, .inl t_doings)), (tA_doing, .inl (g.2.1 0, 72, .inl t_doing)), (tA_row, .inl (g.2.1 0, 80, .inl t_row_47))] H := hP
              have hD : va_D A [(tA, .inr (5, [.int (nI t_length), .ref tA_text, .int (nI t_at), .int (nI t_begin), .int t_told, .ref tA_is, .ref tA_doings, .ref tA_doing, .int t_items, .ref tA_row, .ref tA_isKept, .int t_when_43, .int t_most_44, .int t_mostAt_45, .int t_hiss_46, .ref tA_best, .ref tA_heats, .ref tA_orders, .ref tA_has, .int (nI t_tests), .ref tA_salt, .ref tA_crumbs, .long t_traced, .int t_hasSkin, .int t_hasBend])), (tA_is, .inl (g.2.1 0, 18, .inl t_is)), (tA_doings, .inl (g.2.1 0, 2, .inl t_doings)), (tA_doing, .inl (g.2.1 0, 72, .inl t_doing)), (tA_row, .inl (g.2.1 0, 80, .inl t_row_47))] := hD
              have E := x_nm_eq E hw_49
              refine lv_if_eq (tgt := 46) hx hb dX5_simmered_39 (by decide) (fun c_52 => ?_) (fun c_52 => ?_)
              · have E := x_pos E c_52
                refine lv_iload_n hx hb dX5_simmered_46 rfl (lv_at hl 2 rfl) ?_
                exact J_30 l2_15 t_when_43 t_most_44 t_mostAt_45 t_hiss_46 t_row_47 E  H locs ls hP hD hS (lv_sub hl [0, 1, 3] rfl)
              · have E := x_neg E c_52
                refine lv_iload_n hx hb dX5_simmered_42 rfl (lv_at hl 3 rfl) ?_
                refine lv_goto (tgt := 47) hx hb dX5_simmered_43 (by decide) ?_
                exact J_30 (nI k3_16) t_when_43 t_most_44 t_mostAt_45 t_hiss_46 t_row_47 E  H locs ls hP hD hS (lv_sub hl [0, 1, 3] rfl)
    exact L_22 (101 + 1) (-9) 60 t_when t_most t_mostAt t_hiss t_row (by first | omega | assumption | rfl) (by omega) E H locs ls hP hD hS (lv_sub hl [2, 3, 1, 0] rfl)
  · have E := x_pos E c_5
    refine lv_iconst (v := (-1)) hx hb dX5_simmered_10 (by decide) ?_
    exact RET (-1) (t_when, t_most, t_mostAt, t_hiss, t_row) H locs _ _ (E.symm.trans hO) rfl hP hD hS dX5_simmered_11
abbrev rX5_planned : Room := { frames := 3, cells := 0, slots := 0, locals := 80 }
theorem vX5_planned : yX5_planned.cls = RX5 ∧ yX5_planned.cls ≠ "java/lang/invoke/MethodHandle" ∧ yX5_planned.cls ≠ "java/lang/invoke/VarHandle" ∧ (parseMethodDescriptor yX5_planned.desc).map (fun d => d.parameters.length) = some 3 := by decide +kernel
abbrev wX5_planned : List Cond := Cond.code yX5_planned cX5_planned 7 (some .int) :: wsL_law
def F_X5_planned_L94 (t_is : Nat → Int32) (j_7 : Nat) (k4_32 : Nat) (k5_48 : Nat) : Nat → Nat → Int32 → Int32 → Int32 → Int32 → (Nat → Int32) → Int32 × Int32 × Int32 × Int32 × (Nat → Int32)
  | 0, k6_83, t_when_84, t_most_85, t_mostAt_86, t_hiss_87, t_row_88 => (t_when_84, t_most_85, t_mostAt_86, t_hiss_87, t_row_88)
  | n_89 + 1, k6_83, t_when_84, t_most_85, t_mostAt_86, t_hiss_87, t_row_88 => if j_7 ≤ k6_83 then (t_when_84, t_most_85, t_mostAt_86, t_hiss_87, t_row_88) else x_nm (α := (Nat → Int32)) (if k6_83 ≤ 0 then t_row_88 else if (k6_83 % k5_48) = 0 then x_nm (F_X5_turns t_row_88 3 1) fun t_row_102 => t_row_102 else t_row_88) fun u_92 => x_nm (F_X5_tried t_is u_92 t_when_84 t_most_85 t_mostAt_86 t_hiss_87 (nI k4_32) 0) fun u_99 => F_X5_planned_L94 t_is j_7 k4_32 k5_48 n_89 (k6_83 + 1) u_99.1 u_99.2.1 u_99.2.2.1 u_99.2.2.2.1 u_99.2.2.2.2
def F_X5_planned_L79 (t_is : Nat → Int32) (j_7 : Nat) (j_14 : Nat) (k4_32 : Nat) : Nat → Nat → Int32 → Int32 → Int32 → Int32 → (Nat → Int32) → (Nat → Int32) → Int32 × Int32 × Int32 × Int32 × (Nat → Int32) × (Nat → Int32)
  | 0, k5_48, t_when_49, t_most_50, t_mostAt_51, t_hiss_52, t_row_53, t_best_54 => (t_when_49, t_most_50, t_mostAt_51, t_hiss_52, t_row_53, t_best_54)
  | n_55 + 1, k5_48, t_when_49, t_most_50, t_mostAt_51, t_hiss_52, t_row_53, t_best_54 => if 40 < k5_48 then (t_when_49, t_most_50, t_mostAt_51, t_hiss_52, t_row_53, t_best_54) else x_nm (F_X5_fresh t_is t_row_53 (nI j_14)) fun u_63 => x_nm (α := Int32 × Int32 × Int32 × Int32 × (Nat → Int32)) (F_X5_planned_L94 t_is j_7 k4_32 k5_48 (j_7 + 1) 0 u_63.1 u_63.2.1 u_63.2.2.1 u_63.2.2.2.1 u_63.2.2.2.2) fun u_69 => x_nm (α := (Nat → Int32)) (if 0 ≤ u_69.1 then t_best_54 else x_nm (F_X5_brown u_69.2.2.2.2 0) fun z_73 => if z_73 ≤ (t_best_54 0) then t_best_54 else x_nm (F_X5_brown u_69.2.2.2.2 0) fun z_77 => x_nm (upd t_best_54 0 z_77) fun t_best_80 => x_nm (upd t_best_80 1 (nI k4_32)) fun t_best_81 => x_nm (upd t_best_81 2 (nI k5_48)) fun t_best_82 => t_best_82) fun u_71 => F_X5_planned_L79 t_is j_7 j_14 k4_32 n_55 (k5_48 + 5) u_69.1 u_69.2.1 u_69.2.2.1 u_69.2.2.2.1 u_69.2.2.2.2 u_71
def F_X5_planned_L68 (t_is : Nat → Int32) (j_7 : Nat) (j_14 : Nat) : Nat → Nat → Int32 → Int32 → Int32 → Int32 → (Nat → Int32) → (Nat → Int32) → Int32 × Int32 × Int32 × Int32 × (Nat → Int32) × (Nat → Int32)
  | 0, k4_32, t_when_33, t_most_34, t_mostAt_35, t_hiss_36, t_row_37, t_best_38 => (t_when_33, t_most_34, t_mostAt_35, t_hiss_36, t_row_37, t_best_38)
  | n_39 + 1, k4_32, t_when_33, t_most_34, t_mostAt_35, t_hiss_36, t_row_37, t_best_38 => if 260 < k4_32 then (t_when_33, t_most_34, t_mostAt_35, t_hiss_36, t_row_37, t_best_38) else x_nm (α := Int32 × Int32 × Int32 × Int32 × (Nat → Int32) × (Nat → Int32)) (F_X5_planned_L79 t_is j_7 j_14 k4_32 46 5 t_when_33 t_most_34 t_mostAt_35 t_hiss_36 t_row_37 t_best_38) fun u_47 => F_X5_planned_L68 t_is j_7 j_14 n_39 (k4_32 + 20) u_47.1 u_47.2.1 u_47.2.2.1 u_47.2.2.2.1 u_47.2.2.2.2.1 u_47.2.2.2.2.2
def F_X5_planned (t_is : Nat → Int32) (t_row : Nat → Int32) (t_when : Int32) (t_most : Int32) (t_mostAt : Int32) (t_hiss : Int32) (t_best : Nat → Int32) (a1 : Int32) (a2 : Int32) (a3 : Int32) : Int32 × Int32 × Int32 × Int32 × Int32 × (Nat → Int32) × (Nat → Int32) :=
  x_nm (F_X5_in a1.toInt64 8 240) fun z_1 => if z_1 = 0 then ((-1), t_when, t_most, t_mostAt, t_hiss, t_row, t_best) else x_nm (a1.toNatClampNeg) fun j_7 => x_nm (F_X5_in a2.toInt64 0 15) fun z_8 => if z_8 = 0 then ((-1), t_when, t_most, t_mostAt, t_hiss, t_row, t_best) else x_nm (a2.toNatClampNeg) fun j_14 => x_nm (F_X5_in a3.toInt64 0 2) fun z_15 => if z_15 = 0 then ((-1), t_when, t_most, t_mostAt, t_hiss, t_row, t_best) else x_nm (a3.toNatClampNeg) fun j_21 => x_nm (upd t_best 0 (-9)) fun t_best_22 => x_nm (upd t_best_22 1 (-9)) fun t_best_23 => x_nm (upd t_best_23 2 (-9)) fun t_best_24 => x_nm (α := Int32 × Int32 × Int32 × Int32 × (Nat → Int32) × (Nat → Int32)) (F_X5_planned_L68 t_is j_7 j_14 281 80 t_when t_most t_mostAt t_hiss t_row t_best_24) fun u_31 => (u_31.2.2.2.2.2 j_21, u_31.1, u_31.2.1, u_31.2.2.1, u_31.2.2.2.1, u_31.2.2.2.2.1, u_31.2.2.2.2.2)
set_option maxHeartbeats 4000000 in
set_option maxRecDepth 100000 in
theorem m_X5_planned (l : Launch) (g : x_G) (tA tA_is tA_row tA_best tA_text tA_doings tA_doing tA_isKept tA_heats tA_orders tA_has tA_salt tA_crumbs : Nat) (t_length : Nat) (t_at : Nat) (t_begin : Nat) (t_told : Int32) (t_items : Int32) (t_when : Int32) (t_most : Int32) (t_mostAt : Int32) (t_hiss : Int32) (t_tests : Nat) (t_traced : Int64) (t_hasSkin : Int32) (t_hasBend : Int32) (t_is : Nat → Int32) (t_row : Nat → Int32) (t_best : Nat → Int32) (a1 : Int32) (a2 : Int32) (a3 : Int32) (h_0 : ¬ 8 * t_is 0 = 0) : x_MetI l yX5_planned wX5_planned rX5_planned g [.ref tA, .int a1, .int a2, .int a3] [(tA, .inr (5, [.int (nI t_length), .ref tA_text, .int (nI t_at), .int (nI t_begin), .int t_told, .ref tA_is, .ref tA_doings, .ref tA_doing, .int t_items, .ref tA_row, .ref tA_isKept, .int t_when, .int t_most, .int t_mostAt, .int t_hiss, .ref tA_best, .ref tA_heats, .ref tA_orders, .ref tA_has, .int (nI t_tests), .ref tA_salt, .ref tA_crumbs, .long t_traced, .int t_hasSkin, .int t_hasBend])), (tA_is, .inl (g.2.1 0, 18, .inl t_is)), (tA_row, .inl (g.2.1 0, 80, .inl t_row)), (tA_best, .inl (g.2.1 0, 3, .inl t_best))] (fun (r : Int32) (u : Int32 × Int32 × Int32 × Int32 × (Nat → Int32) × (Nat → Int32)) => (r, u) = F_X5_planned t_is t_row t_when t_most t_mostAt t_hiss t_best a1 a2 a3) (fun u => [(tA, .inr (5, [.int (nI t_length), .ref tA_text, .int (nI t_at), .int (nI t_begin), .int t_told, .ref tA_is, .ref tA_doings, .ref tA_doing, .int t_items, .ref tA_row, .ref tA_isKept, .int u.1, .int u.2.1, .int u.2.2.1, .int u.2.2.2.1, .ref tA_best, .ref tA_heats, .ref tA_orders, .ref tA_has, .int (nI t_tests), .ref tA_salt, .ref tA_crumbs, .long t_traced, .int t_hasSkin, .int t_hasBend])), (tA_is, .inl (g.2.1 0, 18, .inl t_is)), (tA_row, .inl (g.2.1 0, 80, .inl u.2.2.2.2.1)), (tA_best, .inl (g.2.1 0, 3, .inl u.2.2.2.2.2))]) := by
  refine x_startI (cc := cX5_planned) (maxL := 7) (by decide) rfl (Nat.le_of_ble_eq_true rfl) ?_
  intro p e s m args below meth c Q A ls H locs hx hb hml hown hts hK hX hP hD hS hA hl RET
  have hown : s.vm.findClass RX5 = some m.cls := hown
  have hl : lv_has ls 7 [(0, .ref tA), (1, .int a1), (2, .int a2), (3, .int a3)] := hl
  obtain ⟨o_0, hO⟩ : ∃ z, z = F_X5_planned t_is t_row t_when t_most t_mostAt t_hiss t_best a1 a2 a3 := ⟨_, rfl⟩
  have E := hO
  rw [F_X5_planned.eq_1] at E
  refine lv_iload_n hx hb dX5_planned_0 rfl (lv_at hl 1 rfl) ?_
  refine lv_i2l (v := a1.toInt64) hx hb dX5_planned_1 rfl ?_
  refine lv_ldc2 (v := 8) hx hb hown (hts _ kw_127) dX5_planned_2 ?_
  refine lv_ldc2 (v := 240) hx hb hown (hts _ kw_673) dX5_planned_5 ?_
  refine x_callS0 ⟨hx, hb, hml, hown, hts⟩ hK hX hP hD hS hA (m_X5_in l g a1.toInt64 8 240) (va_cwS 3 hts (x_gS kw_129 kw_130 kw_5 kw_131) rfl rfl rfl vX5_inS ⟨Nat.le_of_ble_eq_true rfl, Nat.le_of_ble_eq_true rfl⟩) rfl hl.1 rfl (Nat.le_of_ble_eq_true rfl) dX5_planned_8 ⟨Nat.zero_le _, Nat.zero_le _⟩ (fun z_1 _ H locs hw_2 hP hD hS => ?_)
  obtain ⟨hw_2, b_3⟩ := hw_2
  have E := x_nm_eq E hw_2
  refine lv_if_eq (tgt := 38) hx hb dX5_planned_11 (by decide) (fun c_5 => ?_) (fun c_5 => ?_)
  · have E := x_pos E c_5
    refine lv_iconst (v := (-1)) hx hb dX5_planned_38 (by decide) ?_
    exact RET (-1) (t_when, t_most, t_mostAt, t_hiss, t_row, t_best) H locs _ _ (E.symm.trans hO) rfl hP hD hS dX5_planned_39
  · have E := x_neg E c_5
    obtain ⟨j_7, hj⟩ : ∃ z, z = (a1).toNatClampNeg := ⟨_, rfl⟩
    have r_6_0 := (x_ins (lo := 8) (hi := 240) (by omega) (by omega) (fun q => c_5 (hw_2.trans q)))
    rw [← hj] at r_6_0
    obtain ⟨r_6_0_a, r_6_0_b, e_6_0⟩ := r_6_0
    have E := x_nm_eq E hj
    have hl : lv_has ls 7 [(0, .ref tA), (1, .int (nI j_7)), (2, .int a2), (3, .int a3)] := by rw [e_6_0] at hl; exact hl
    refine lv_iload_n hx hb dX5_planned_14 rfl (lv_at hl 2 rfl) ?_
    refine lv_i2l (v := a2.toInt64) hx hb dX5_planned_15 rfl ?_
    refine lv_lconst (v := 0) hx hb dX5_planned_16 (by decide) ?_
    refine lv_ldc2 (v := 15) hx hb hown (hts _ kw_515) dX5_planned_17 ?_
    refine x_callS0 ⟨hx, hb, hml, hown, hts⟩ hK hX hP hD hS hA (m_X5_in l g a2.toInt64 0 15) (va_cwS 3 hts (x_gS kw_129 kw_130 kw_5 kw_131) rfl rfl rfl vX5_inS ⟨Nat.le_of_ble_eq_true rfl, Nat.le_of_ble_eq_true rfl⟩) rfl hl.1 rfl (Nat.le_of_ble_eq_true rfl) dX5_planned_20 ⟨Nat.zero_le _, Nat.zero_le _⟩ (fun z_8 _ H locs hw_9 hP hD hS => ?_)
    obtain ⟨hw_9, b_10⟩ := hw_9
    have E := x_nm_eq E hw_9
    refine lv_if_eq (tgt := 38) hx hb dX5_planned_23 (by decide) (fun c_12 => ?_) (fun c_12 => ?_)
    · have E := x_pos E c_12
      refine lv_iconst (v := (-1)) hx hb dX5_planned_38 (by decide) ?_
      exact RET (-1) (t_when, t_most, t_mostAt, t_hiss, t_row, t_best) H locs _ _ (E.symm.trans hO) rfl hP hD hS dX5_planned_39
    · have E := x_neg E c_12
      obtain ⟨j_14, hj⟩ : ∃ z, z = (a2).toNatClampNeg := ⟨_, rfl⟩
      have r_13_0 := (x_ins (lo := 0) (hi := 15) (by omega) (by omega) (fun q => c_12 (hw_9.trans q)))
      rw [← hj] at r_13_0
      obtain ⟨r_13_0_a, r_13_0_b, e_13_0⟩ := r_13_0
      have E := x_nm_eq E hj
      have hl : lv_has ls 7 [(0, .ref tA), (1, .int (nI j_7)), (2, .int (nI j_14)), (3, .int a3)] := by rw [e_13_0] at hl; exact hl
      refine lv_iload_n hx hb dX5_planned_26 rfl (lv_at hl 3 rfl) ?_
      refine lv_i2l (v := a3.toInt64) hx hb dX5_planned_27 rfl ?_
      refine lv_lconst (v := 0) hx hb dX5_planned_28 (by decide) ?_
      refine lv_ldc2 (v := 2) hx hb hown (hts _ kw_375) dX5_planned_29 ?_
      refine x_callS0 ⟨hx, hb, hml, hown, hts⟩ hK hX hP hD hS hA (m_X5_in l g a3.toInt64 0 2) (va_cwS 3 hts (x_gS kw_129 kw_130 kw_5 kw_131) rfl rfl rfl vX5_inS ⟨Nat.le_of_ble_eq_true rfl, Nat.le_of_ble_eq_true rfl⟩) rfl hl.1 rfl (Nat.le_of_ble_eq_true rfl) dX5_planned_32 ⟨Nat.zero_le _, Nat.zero_le _⟩ (fun z_15 _ H locs hw_16 hP hD hS => ?_)
      obtain ⟨hw_16, b_17⟩ := hw_16
      have E := x_nm_eq E hw_16
      refine x_if_neI (tgt := 40) hx hb dX5_planned_35 (by decide) (fun c_19 => ?_) (fun c_19 => ?_)
      · have E := x_neg E c_19
        obtain ⟨j_21, hj⟩ : ∃ z, z = (a3).toNatClampNeg := ⟨_, rfl⟩
        have r_20_0 := (x_ins (lo := 0) (hi := 2) (by omega) (by omega) (fun q => c_19 (hw_16.trans q)))
        rw [← hj] at r_20_0
        obtain ⟨r_20_0_a, r_20_0_b, e_20_0⟩ := r_20_0
        have E := x_nm_eq E hj
        have hl : lv_has ls 7 [(0, .ref tA), (1, .int (nI j_7)), (2, .int (nI j_14)), (3, .int (nI j_21))] := by rw [e_20_0] at hl; exact hl
        refine lv_aload_n hx hb dX5_planned_40 rfl (lv_at hl 0 rfl) ?_
        refine va_get (ci := 5) (v := .ref tA_best) (C := RX5) (T := TX5) (N := 25) hx hb hts inlX5 hown hK.1 hP 0 rfl rfl 15 (by decide) (hts _ kw_100) (fun _ h9 => h9) rfl dX5_planned_41 ?_
        refine lv_iconst (v := 0) hx hb dX5_planned_44 (by decide) ?_
        refine lv_bipush (v := (-9)) hx hb dX5_planned_45 (by decide) ?_
        refine x_iastN hx hb hK hP hD hS 3 0 rfl (by omega) (by decide) dX5_planned_47 (fun t_best_22 H locs hf hP hD hS => ?_)
        have hP : va_P g.1 vwCl [(tA, .inr (5, [.int (nI t_length), .ref tA_text, .int (nI t_at), .int (nI t_begin), .int t_told, .ref tA_is, .ref tA_doings, .ref tA_doing, .int t_items, .ref tA_row, .ref tA_isKept, .int t_when, .int t_most, .int t_mostAt, .int t_hiss, .ref tA_best, .ref tA_heats, .ref tA_orders, .ref tA_has, .int (nI t_tests), .ref tA_salt, .ref tA_crumbs, .long t_traced, .int t_hasSkin, .int t_hasBend])), (tA_is, .inl (g.2.1 0, 18, .inl t_is)), (tA_row, .inl (g.2.1 0, 80, .inl t_row)), (tA_best, .inl (g.2.1 0, 3, .inl t_best_22))] H := hP
        have hD : va_D A [(tA, .inr (5, [.int (nI t_length), .ref tA_text, .int (nI t_at), .int (nI t_begin), .int t_told, .ref tA_is, .ref tA_doings, .ref tA_doing, .int t_items, .ref tA_row, .ref tA_isKept, .int t_when, .int t_most, .int t_mostAt, .int t_hiss, .ref tA_best, .ref tA_heats, .ref tA_orders, .ref tA_has, .int (nI t_tests), .ref tA_salt, .ref tA_crumbs, .long t_traced, .int t_hasSkin, .int t_hasBend])), (tA_is, .inl (g.2.1 0, 18, .inl t_is)), (tA_row, .inl (g.2.1 0, 80, .inl t_row)), (tA_best, .inl (g.2.1 0, 3, .inl t_best_22))] := hD
        have E := x_nm_eq E hf
        refine lv_aload_n hx hb dX5_planned_48 rfl (lv_at hl 0 rfl) ?_
        refine va_get (ci := 5) (v := .ref tA_best) (C := RX5) (T := TX5) (N := 25) hx hb hts inlX5 hown hK.1 hP 0 rfl rfl 15 (by decide) (hts _ kw_100) (fun _ h9 => h9) rfl dX5_planned_49 ?_
        refine lv_iconst (v := 1) hx hb dX5_planned_52 (by decide) ?_
        refine lv_bipush (v := (-9)) hx hb dX5_planned_53 (by decide) ?_
        refine x_iastN hx hb hK hP hD hS 3 1 rfl (by omega) (by decide) dX5_planned_55 (fun t_best_23 H locs hf hP hD hS => ?_)
        have hP : va_P g.1 vwCl [(tA, .inr (5, [.int (nI t_length), .ref tA_text, .int (nI t_at), .int (nI t_begin), .int t_told, .ref tA_is, .ref tA_doings, .ref tA_doing, .int t_items, .ref tA_row, .ref tA_isKept, .int t_when, .int t_most, .int t_mostAt, .int t_hiss, .ref tA_best, .ref tA_heats, .ref tA_orders, .ref tA_has, .int (nI t_tests), .ref tA_salt, .ref tA_crumbs, .long t_traced, .int t_hasSkin, .int t_hasBend])), (tA_is, .inl (g.2.1 0, 18, .inl t_is)), (tA_row, .inl (g.2.1 0, 80, .inl t_row)), (tA_best, .inl (g.2.1 0, 3, .inl t_best_23))] H := hP
        have hD : va_D A [(tA, .inr (5, [.int (nI t_length), .ref tA_text, .int (nI t_at), .int (nI t_begin), .int t_told, .ref tA_is, .ref tA_doings, .ref tA_doing, .int t_items, .ref tA_row, .ref tA_isKept, .int t_when, .int t_most, .int t_mostAt, .int t_hiss, .ref tA_best, .ref tA_heats, .ref tA_orders, .ref tA_has, .int (nI t_tests), .ref tA_salt, .ref tA_crumbs, .long t_traced, .int t_hasSkin, .int t_hasBend])), (tA_is, .inl (g.2.1 0, 18, .inl t_is)), (tA_row, .inl (g.2.1 0, 80, .inl t_row)), (tA_best, .inl (g.2.1 0, 3, .inl t_best_23))] := hD
        have E := x_nm_eq E hf
        refine lv_aload_n hx hb dX5_planned_56 rfl (lv_at hl 0 rfl) ?_
        refine va_get (ci := 5) (v := .ref tA_best) (C := RX5) (T := TX5) (N := 25) hx hb hts inlX5 hown hK.1 hP 0 rfl rfl 15 (by decide) (hts _ kw_100) (fun _ h9 => h9) rfl dX5_planned_57 ?_
        refine lv_iconst (v := 2) hx hb dX5_planned_60 (by decide) ?_
        refine lv_bipush (v := (-9)) hx hb dX5_planned_61 (by decide) ?_
        refine x_iastN hx hb hK hP hD hS 3 2 rfl (by omega) (by decide) dX5_planned_63 (fun t_best_24 H locs hf hP hD hS => ?_)
        have hP : va_P g.1 vwCl [(tA, .inr (5, [.int (nI t_length), .ref tA_text, .int (nI t_at), .int (nI t_begin), .int t_told, .ref tA_is, .ref tA_doings, .ref tA_doing, .int t_items, .ref tA_row, .ref tA_isKept, .int t_when, .int t_most, .int t_mostAt, .int t_hiss, .ref tA_best, .ref tA_heats, .ref tA_orders, .ref tA_has, .int (nI t_tests), .ref tA_salt, .ref tA_crumbs, .long t_traced, .int t_hasSkin, .int t_hasBend])), (tA_is, .inl (g.2.1 0, 18, .inl t_is)), (tA_row, .inl (g.2.1 0, 80, .inl t_row)), (tA_best, .inl (g.2.1 0, 3, .inl t_best_24))] H := hP
        have hD : va_D A [(tA, .inr (5, [.int (nI t_length), .ref tA_text, .int (nI t_at), .int (nI t_begin), .int t_told, .ref tA_is, .ref tA_doings, .ref tA_doing, .int t_items, .ref tA_row, .ref tA_isKept, .int t_when, .int t_most, .int t_mostAt, .int t_hiss, .ref tA_best, .ref tA_heats, .ref tA_orders, .ref tA_has, .int (nI t_tests), .ref tA_salt, .ref tA_crumbs, .long t_traced, .int t_hasSkin, .int t_hasBend])), (tA_is, .inl (g.2.1 0, 18, .inl t_is)), (tA_row, .inl (g.2.1 0, 80, .inl t_row)), (tA_best, .inl (g.2.1 0, 3, .inl t_best_24))] := hD
        have E := x_nm_eq E hf
        refine lv_bipush (v := 80) hx hb dX5_planned_64 (by decide) ?_
        refine lv_istore (lv' := [(4, .int 80), (0, .ref tA), (1, .int (nI j_7)), (2, .int (nI j_14)), (3, .int (nI j_21))]) hx hb dX5_planned_66 hl (by decide) rfl (fun ls hl => ?_)
        obtain ⟨o_31, E_31, E⟩ := x_nm_ex E
        have J_31 : ∀ (t_when_25 : Int32) (t_most_26 : Int32) (t_mostAt_27 : Int32) (t_hiss_28 : Int32) (t_row_29 : Nat → Int32) (t_best_30 : Nat → Int32), o_31 = (t_when_25, t_most_26, t_mostAt_27, t_hiss_28, t_row_29, t_best_30) → ∀ (H : Heap) (locs : List Loc) (ls : Array Slot), va_P g.1 vwCl [(tA, .inr (5, [.int (nI t_length), .ref tA_text, .int (nI t_at), .int (nI t_begin), .int t_told, .ref tA_is, .ref tA_doings, .ref tA_doing, .int t_items, .ref tA_row, .ref tA_isKept, .int t_when_25, .int t_most_26, .int t_mostAt_27, .int t_hiss_28, .ref tA_best, .ref tA_heats, .ref tA_orders, .ref tA_has, .int (nI t_tests), .ref tA_salt, .ref tA_crumbs, .long t_traced, .int t_hasSkin, .int t_hasBend])), (tA_is, .inl (g.2.1 0, 18, .inl t_is)), (tA_row, .inl (g.2.1 0, 80, .inl t_row_29)), (tA_best, .inl (g.2.1 0, 3, .inl t_best_30))] H → va_D A [(tA, .inr (5, [.int (nI t_length), .ref tA_text, .int (nI t_at), .int (nI t_begin), .int t_told, .ref tA_is, .ref tA_doings, .ref tA_doing, .int t_items, .ref tA_row, .ref tA_isKept, .int t_when_25, .int t_most_26, .int t_mostAt_27, .int t_hiss_28, .ref tA_best, .ref tA_heats, .ref tA_orders, .ref tA_has, .int (nI t_tests), .ref tA_salt, .ref tA_crumbs, .long t_traced, .int t_hasSkin, .int t_hasBend])), (tA_is, .inl (g.2.1 0, 18, .inl t_is)), (tA_row, .inl (g.2.1 0, 80, .inl t_row_29)), (tA_best, .inl (g.2.1 0, 3, .inl t_best_30))] → va_S A s.heap H locs → lv_has ls 7 [(0, .ref tA), (3, .int (nI j_21))] → W p l e rX5_planned s m args below meth c H locs 0 0 Q (F0 m 192 ls []) := by
          intro t_when_25 t_most_26 t_mostAt_27 t_hiss_28 t_row_29 t_best_30 hE  H locs ls hP hD hS hl
          try rw [hE] at E
          refine lv_aload_n hx hb dX5_planned_192 rfl (lv_at hl 0 rfl) ?_
          refine va_get (ci := 5) (v := .ref tA_best) (C := RX5) (T := TX5) (N := 25) hx hb hts inlX5 hown hK.1 hP 0 rfl rfl 15 (by decide) (hts _ kw_100) (fun _ h9 => h9) rfl dX5_planned_193 ?_
          refine lv_iload_n hx hb dX5_planned_196 rfl (lv_at hl 1 rfl) ?_
          refine x_ialdN hx hb hK hP 3 j_21 rfl (by omega) (by decide) dX5_planned_197 ?_
          exact RET (t_best_30 j_21) (t_when_25, t_most_26, t_mostAt_27, t_hiss_28, t_row_29, t_best_30) H locs _ _ (E.symm.trans hO) rfl hP hD hS dX5_planned_198
        have E := E_31
        have L_39 : ∀ (n_39 : Nat) (k4_32 : Nat) (t_when_33 : Int32) (t_most_34 : Int32) (t_mostAt_35 : Int32) (t_hiss_36 : Int32) (t_row_37 : Nat → Int32) (t_best_38 : Nat → Int32), (k4_32 ≤ 280) → ((280 - k4_32) < n_39) → o_31 = F_X5_planned_L68 t_is j_7 j_14 n_39 k4_32 t_when_33 t_most_34 t_mostAt_35 t_hiss_36 t_row_37 t_best_38 → ∀ (H : Heap) (locs : List Loc) (ls : Array Slot), va_P g.1 vwCl [(tA, .inr (5, [.int (nI t_length), .ref tA_text, .int (nI t_at), .int (nI t_begin), .int t_told, .ref tA_is, .ref tA_doings, .ref tA_doing, .int t_items, .ref tA_row, .ref tA_isKept, .int t_when_33, .int t_most_34, .int t_mostAt_35, .int t_hiss_36, .ref tA_best, .ref tA_heats, .ref tA_orders, .ref tA_has, .int (nI t_tests), .ref tA_salt, .ref tA_crumbs, .long t_traced, .int t_hasSkin, .int t_hasBend])), (tA_is, .inl (g.2.1 0, 18, .inl t_is)), (tA_row, .inl (g.2.1 0, 80, .inl t_row_37)), (tA_best, .inl (g.2.1 0, 3, .inl t_best_38))] H → va_D A [(tA, .inr (5, [.int (nI t_length), .ref tA_text, .int (nI t_at), .int (nI t_begin), .int t_told, .ref tA_is, .ref tA_doings, .ref tA_doing, .int t_items, .ref tA_row, .ref tA_isKept, .int t_when_33, .int t_most_34, .int t_mostAt_35, .int t_hiss_36, .ref tA_best, .ref tA_heats, .ref tA_orders, .ref tA_has, .int (nI t_tests), .ref tA_salt, .ref tA_crumbs, .long t_traced, .int t_hasSkin, .int t_hasBend])), (tA_is, .inl (g.2.1 0, 18, .inl t_is)), (tA_row, .inl (g.2.1 0, 80, .inl t_row_37)), (tA_best, .inl (g.2.1 0, 3, .inl t_best_38))] → va_S A s.heap H locs → lv_has ls 7 [(0, .ref tA), (1, .int (nI j_7)), (2, .int (nI j_14)), (3, .int (nI j_21)), (4, .int (nI k4_32))] → W p l e rX5_planned s m args below meth c H locs 0 0 Q (F0 m 68 ls []) := by
          intro n_39
          induction n_39 with
          | zero => intro k4_32 t_when_33 t_most_34 t_mostAt_35 t_hiss_36 t_row_37 t_best_38 i_39_0 i_39_1; exact absurd i_39_1 (by omega)
          | succ n_39 ih_39 =>
            intro k4_32 t_when_33 t_most_34 t_mostAt_35 t_hiss_36 t_row_37 t_best_38 i_39_0 i_39_1 E H locs ls hP hD hS hl
            rw [F_X5_planned_L68.eq_2] at E
            refine lv_iload hx hb dX5_planned_68 (lv_at hl 4 rfl) ?_
            refine lv_sipush (v := 260) hx hb dX5_planned_70 (by decide) ?_
            refine x_icmp_gt (a := k4_32) (b := 260) (tgt := 192) hx hb (by omega) (by omega) dX5_planned_73 (by decide) (fun c_40 => ?_) (fun c_40 => ?_)
            · have E := x_pos E c_40
              exact J_31 t_when_33 t_most_34 t_mostAt_35 t_hiss_36 t_row_37 t_best_38 E  H locs ls hP hD hS (lv_sub hl [0, 3] rfl)
            · have E := x_neg E c_40
              refine lv_iconst (v := 5) hx hb dX5_planned_76 (by decide) ?_
              refine lv_istore (lv' := [(5, .int 5), (0, .ref tA), (1, .int (nI j_7)), (2, .int (nI j_14)), (3, .int (nI j_21)), (4, .int (nI k4_32))]) hx hb dX5_planned_77 hl (by decide) rfl (fun ls hl => ?_)
              obtain ⟨o_47, E_47, E⟩ := x_nm_ex E
              have J_47 : ∀ (t_when_41 : Int32) (t_most_42 : Int32) (t_mostAt_43 : Int32) (t_hiss_44 : Int32) (t_row_45 : Nat → Int32) (t_best_46 : Nat → Int32), o_47 = (t_when_41, t_most_42, t_mostAt_43, t_hiss_44, t_row_45, t_best_46) → ∀ (H : Heap) (locs : List Loc) (ls : Array Slot), va_P g.1 vwCl [(tA, .inr (5, [.int (nI t_length), .ref tA_text, .int (nI t_at), .int (nI t_begin), .int t_told, .ref tA_is, .ref tA_doings, .ref tA_doing, .int t_items, .ref tA_row, .ref tA_isKept, .int t_when_41, .int t_most_42, .int t_mostAt_43, .int t_hiss_44, .ref tA_best, .ref tA_heats, .ref tA_orders, .ref tA_has, .int (nI t_tests), .ref tA_salt, .ref tA_crumbs, .long t_traced, .int t_hasSkin, .int t_hasBend])), (tA_is, .inl (g.2.1 0, 18, .inl t_is)), (tA_row, .inl (g.2.1 0, 80, .inl t_row_45)), (tA_best, .inl (g.2.1 0, 3, .inl t_best_46))] H → va_D A [(tA, .inr (5, [.int (nI t_length), .ref tA_text, .int (nI t_at), .int (nI t_begin), .int t_told, .ref tA_is, .ref tA_doings, .ref tA_doing, .int t_items, .ref tA_row, .ref tA_isKept, .int t_when_41, .int t_most_42, .int t_mostAt_43, .int t_hiss_44, .ref tA_best, .ref tA_heats, .ref tA_orders, .ref tA_has, .int (nI t_tests), .ref tA_salt, .ref tA_crumbs, .long t_traced, .int t_hasSkin, .int t_hasBend])), (tA_is, .inl (g.2.1 0, 18, .inl t_is)), (tA_row, .inl (g.2.1 0, 80, .inl t_row_45)), (tA_best, .inl (g.2.1 0, 3, .inl t_best_46))] → va_S A s.heap H locs → lv_has ls 7 [(0, .ref tA), (1, .int (nI j_7)), (2, .int (nI j_14)), (3, .int (nI j_21)), (4, .int (nI k4_32))] → W p l e rX5_planned s m args below meth c H locs 0 0 Q (F0 m 186 ls []) := by
                intro t_when_41 t_most_42 t_mostAt_43 t_hiss_44 t_row_45 t_best_46 hE  H locs ls hP hD hS hl
                try rw [hE] at E
                refine lv_iinc (v := nI (k4_32 + 20)) (lv' := [(4, .int (nI (k4_32 + 20))), (0, .ref tA), (1, .int (nI j_7)), (2, .int (nI j_14)), (3, .int (nI j_21))]) hx hb dX5_planned_186 hl (k := 4) rfl (nI_add k4_32 20) (by decide) rfl (fun ls hl => ?_)
                refine lv_goto (tgt := 68) hx hb dX5_planned_189 (by decide) ?_
                exact ih_39 (k4_32 + 20) t_when_41 t_most_42 t_mostAt_43 t_hiss_44 t_row_45 t_best_46 (by first | omega | assumption | exact Eq.trans (by assumption) (by assumption)) (by omega) E H locs ls hP hD hS (lv_sub hl [1, 2, 3, 4, 0] rfl)
              have E := E_47
              have L_55 : ∀ (n_55 : Nat) (k5_48 : Nat) (t_when_49 : Int32) (t_most_50 : Int32) (t_mostAt_51 : Int32) (t_hiss_52 : Int32) (t_row_53 : Nat → Int32) (t_best_54 : Nat → Int32), (k5_48 ≤ 45) → (5 ≤ k5_48) → ((45 - k5_48) < n_55) → o_47 = F_X5_planned_L79 t_is j_7 j_14 k4_32 n_55 k5_48 t_when_49 t_most_50 t_mostAt_51 t_hiss_52 t_row_53 t_best_54 → ∀ (H : Heap) (locs : List Loc) (ls : Array Slot), va_P g.1 vwCl [(tA, .inr (5, [.int (nI t_length), .ref tA_text, .int (nI t_at), .int (nI t_begin), .int t_told, .ref tA_is, .ref tA_doings, .ref tA_doing, .int t_items, .ref tA_row, .ref tA_isKept, .int t_when_49, .int t_most_50, .int t_mostAt_51, .int t_hiss_52, .ref tA_best, .ref tA_heats, .ref tA_orders, .ref tA_has, .int (nI t_tests), .ref tA_salt, .ref tA_crumbs, .long t_traced, .int t_hasSkin, .int t_hasBend])), (tA_is, .inl (g.2.1 0, 18, .inl t_is)), (tA_row, .inl (g.2.1 0, 80, .inl t_row_53)), (tA_best, .inl (g.2.1 0, 3, .inl t_best_54))] H → va_D A [(tA, .inr (5, [.int (nI t_length), .ref tA_text, .int (nI t_at), .int (nI t_begin), .int t_told, .ref tA_is, .ref tA_doings, .ref tA_doing, .int t_items, .ref tA_row, .ref tA_isKept, .int t_when_49, .int t_most_50, .int t_mostAt_51, .int t_hiss_52, .ref tA_best, .ref tA_heats, .ref tA_orders, .ref tA_has, .int (nI t_tests), .ref tA_salt, .ref tA_crumbs, .long t_traced, .int t_hasSkin, .int t_hasBend])), (tA_is, .inl (g.2.1 0, 18, .inl t_is)), (tA_row, .inl (g.2.1 0, 80, .inl t_row_53)), (tA_best, .inl (g.2.1 0, 3, .inl t_best_54))] → va_S A s.heap H locs → lv_has ls 7 [(0, .ref tA), (1, .int (nI j_7)), (2, .int (nI j_14)), (3, .int (nI j_21)), (4, .int (nI k4_32)), (5, .int (nI k5_48))] → W p l e rX5_planned s m args below meth c H locs 0 0 Q (F0 m 79 ls []) := by
                intro n_55
                induction n_55 with
                | zero => intro k5_48 t_when_49 t_most_50 t_mostAt_51 t_hiss_52 t_row_53 t_best_54 i_55_0 i_55_1 i_55_2; exact absurd i_55_2 (by omega)
                | succ n_55 ih_55 =>
                  intro k5_48 t_when_49 t_most_50 t_mostAt_51 t_hiss_52 t_row_53 t_best_54 i_55_0 i_55_1 i_55_2 E H locs ls hP hD hS hl
                  rw [F_X5_planned_L79.eq_2] at E
                  refine lv_iload hx hb dX5_planned_79 (lv_at hl 5 rfl) ?_
                  refine lv_bipush (v := 40) hx hb dX5_planned_81 (by decide) ?_
                  refine x_icmp_gt (a := k5_48) (b := 40) (tgt := 186) hx hb (by omega) (by omega) dX5_planned_83 (by decide) (fun c_56 => ?_) (fun c_56 => ?_)
                  · have E := x_pos E c_56
                    exact J_47 t_when_49 t_most_50 t_mostAt_51 t_hiss_52 t_row_53 t_best_54 E  H locs ls hP hD hS (lv_sub hl [0, 1, 2, 3, 4] rfl)
                  · have E := x_neg E c_56
                    refine lv_aload_n hx hb dX5_planned_86 rfl (lv_at hl 0 rfl) ?_
                    refine lv_iload_n hx hb dX5_planned_87 rfl (lv_at hl 2 rfl) ?_
                    refine x_callVv (w2 := fun u => [(tA, .inr (5, [.int (nI t_length), .ref tA_text, .int (nI t_at), .int (nI t_begin), .int t_told, .ref tA_is, .ref tA_doings, .ref tA_doing, .int t_items, .ref tA_row, .ref tA_isKept, .int u.1, .int u.2.1, .int u.2.2.1, .int u.2.2.2.1, .ref tA_best, .ref tA_heats, .ref tA_orders, .ref tA_has, .int (nI t_tests), .ref tA_salt, .ref tA_crumbs, .long t_traced, .int t_hasSkin, .int t_hasBend])), (tA_is, .inl (g.2.1 0, 18, .inl t_is)), (tA_row, .inl (g.2.1 0, 80, .inl u.2.2.2.2)), (tA_best, .inl (g.2.1 0, 3, .inl t_best_54))]) (wr := [(tA_best, .inl (g.2.1 0, 3, .inl t_best_54))]) [0, 1, 2] [3] [1, 2, 3, 0] 0 5 ⟨hx, hb, hml, hown, hts⟩ hK hX hP hD hS hA (m_X5_fresh l g tA tA_is tA_row tA_text tA_doings tA_doing tA_isKept tA_best tA_heats tA_orders tA_has tA_salt tA_crumbs t_length t_at t_begin t_told t_items t_when_49 t_most_50 t_mostAt_51 t_hiss_52 t_tests t_traced t_hasSkin t_hasBend t_is t_row_53 (nI j_14)) (cwV 1 hts (x_gV kw_608 kw_609 kw_610 kw_5 kw_611) rfl rfl rfl vX5_fresh ⟨Nat.le_of_ble_eq_true rfl, Nat.le_of_ble_eq_true rfl⟩) rfl rfl rfl rfl rfl rfl rfl (by decide) (fun _ => rfl) rfl rfl hl.1 rfl (Nat.le_of_ble_eq_true rfl) dX5_planned_88 ⟨Nat.zero_le _, Nat.zero_le _⟩ (fun u H locs hw_62 hP hD hS => ?_)
                    obtain ⟨t_when_57, t_most_58, t_mostAt_59, t_hiss_60, t_row_61⟩ := u
                    have hP : va_P g.1 vwCl [(tA, .inr (5, [.int (nI t_length), .ref tA_text, .int (nI t_at), .int (nI t_begin), .int t_told, .ref tA_is, .ref tA_doings, .ref tA_doing, .int t_items, .ref tA_row, .ref tA_isKept, .int t_when_57, .int t_most_58, .int t_mostAt_59, .int t_hiss_60, .ref tA_best, .ref tA_heats, .ref tA_orders, .ref tA_has, .int (nI t_tests), .ref tA_salt, .ref tA_crumbs, .long t_traced, .int t_hasSkin, .int t_hasBend])), (tA_is, .inl (g.2.1 0, 18, .inl t_is)), (tA_row, .inl (g.2.1 0, 80, .inl t_row_61)), (tA_best, .inl (g.2.1 0, 3, .inl t_best_54))] H := hP
                    have hD : va_D A [(tA, .inr (5, [.int (nI t_length), .ref tA_text, .int (nI t_at), .int (nI t_begin), .int t_told, .ref tA_is, .ref tA_doings, .ref tA_doing, .int t_items, .ref tA_row, .ref tA_isKept, .int t_when_57, .int t_most_58, .int t_mostAt_59, .int t_hiss_60, .ref tA_best, .ref tA_heats, .ref tA_orders, .ref tA_has, .int (nI t_tests), .ref tA_salt, .ref tA_crumbs, .long t_traced, .int t_hasSkin, .int t_hasBend])), (tA_is, .inl (g.2.1 0, 18, .inl t_is)), (tA_row, .inl (g.2.1 0, 80, .inl t_row_61)), (tA_best, .inl (g.2.1 0, 3, .inl t_best_54))] := hD
                    have E := x_nm_eq E hw_62
                    refine lv_iconst (v := 0) hx hb dX5_planned_91 (by decide) ?_
                    refine lv_istore (lv' := [(6, .int 0), (0, .ref tA), (1, .int (nI j_7)), (2, .int (nI j_14)), (3, .int (nI j_21)), (4, .int (nI k4_32)), (5, .int (nI k5_48))]) hx hb dX5_planned_92 hl (by decide) rfl (fun ls hl => ?_)
                    obtain ⟨o_69, E_69, E⟩ := x_nm_ex E
                    have J_69 : ∀ (t_when_64 : Int32) (t_most_65 : Int32) (t_mostAt_66 : Int32) (t_hiss_67 : Int32) (t_row_68 : Nat → Int32), o_69 = (t_when_64, t_most_65, t_mostAt_66, t_hiss_67, t_row_68) → ∀ (H : Heap) (locs : List Loc) (ls : Array Slot), va_P g.1 vwCl [(tA, .inr (5, [.int (nI t_length), .ref tA_text, .int (nI t_at), .int (nI t_begin), .int t_told, .ref tA_is, .ref tA_doings, .ref tA_doing, .int t_items, .ref tA_row, .ref tA_isKept, .int t_when_64, .int t_most_65, .int t_mostAt_66, .int t_hiss_67, .ref tA_best, .ref tA_heats, .ref tA_orders, .ref tA_has, .int (nI t_tests), .ref tA_salt, .ref tA_crumbs, .long t_traced, .int t_hasSkin, .int t_hasBend])), (tA_is, .inl (g.2.1 0, 18, .inl t_is)), (tA_row, .inl (g.2.1 0, 80, .inl t_row_68)), (tA_best, .inl (g.2.1 0, 3, .inl t_best_54))] H → va_D A [(tA, .inr (5, [.int (nI t_length), .ref tA_text, .int (nI t_at), .int (nI t_begin), .int t_told, .ref tA_is, .ref tA_doings, .ref tA_doing, .int t_items, .ref tA_row, .ref tA_isKept, .int t_when_64, .int t_most_65, .int t_mostAt_66, .int t_hiss_67, .ref tA_best, .ref tA_heats, .ref tA_orders, .ref tA_has, .int (nI t_tests), .ref tA_salt, .ref tA_crumbs, .long t_traced, .int t_hasSkin, .int t_hasBend])), (tA_is, .inl (g.2.1 0, 18, .inl t_is)), (tA_row, .inl (g.2.1 0, 80, .inl t_row_68)), (tA_best, .inl (g.2.1 0, 3, .inl t_best_54))] → va_S A s.heap H locs → lv_has ls 7 [(0, .ref tA), (1, .int (nI j_7)), (2, .int (nI j_14)), (3, .int (nI j_21)), (4, .int (nI k4_32)), (5, .int (nI k5_48))] → W p l e rX5_planned s m args below meth c H locs 0 0 Q (F0 m 132 ls []) := by
                      intro t_when_64 t_most_65 t_mostAt_66 t_hiss_67 t_row_68 hE  H locs ls hP hD hS hl
                      try rw [hE] at E
                      refine lv_aload_n hx hb dX5_planned_132 rfl (lv_at hl 0 rfl) ?_
                      refine va_get (ci := 5) (v := .int t_when_64) (C := RX5) (T := TX5) (N := 25) hx hb hts inlX5 hown hK.1 hP 0 rfl rfl 11 (by decide) (hts _ kw_99) (fun _ h9 => h9) rfl dX5_planned_133 ?_
                      obtain ⟨o_71, E_71, E⟩ := x_nm_ex E
                      have J_71 : ∀ (t_best_70 : Nat → Int32), o_71 = t_best_70 → ∀ (H : Heap) (locs : List Loc) (ls : Array Slot), va_P g.1 vwCl [(tA, .inr (5, [.int (nI t_length), .ref tA_text, .int (nI t_at), .int (nI t_begin), .int t_told, .ref tA_is, .ref tA_doings, .ref tA_doing, .int t_items, .ref tA_row, .ref tA_isKept, .int t_when_64, .int t_most_65, .int t_mostAt_66, .int t_hiss_67, .ref tA_best, .ref tA_heats, .ref tA_orders, .ref tA_has, .int (nI t_tests), .ref tA_salt, .ref tA_crumbs, .long t_traced, .int t_hasSkin, .int t_hasBend])), (tA_is, .inl (g.2.1 0, 18, .inl t_is)), (tA_row, .inl (g.2.1 0, 80, .inl t_row_68)), (tA_best, .inl (g.2.1 0, 3, .inl t_best_70))] H → va_D A [(tA, .inr (5, [.int (nI t_length), .ref tA_text, .int (nI t_at), .int (nI t_begin), .int t_told, .ref tA_is, .ref tA_doings, .ref tA_doing, .int t_items, .ref tA_row, .ref tA_isKept, .int t_when_64, .int t_most_65, .int t_mostAt_66, .int t_hiss_67, .ref tA_best, .ref tA_heats, .ref tA_orders, .ref tA_has, .int (nI t_tests), .ref tA_salt, .ref tA_crumbs, .long t_traced, .int t_hasSkin, .int t_hasBend])), (tA_is, .inl (g.2.1 0, 18, .inl t_is)), (tA_row, .inl (g.2.1 0, 80, .inl t_row_68)), (tA_best, .inl (g.2.1 0, 3, .inl t_best_70))] → va_S A s.heap H locs → lv_has ls 7 [(0, .ref tA), (1, .int (nI j_7)), (2, .int (nI j_14)), (3, .int (nI j_21)), (4, .int (nI k4_32)), (5, .int (nI k5_48))] → W p l e rX5_planned s m args below meth c H locs 0 0 Q (F0 m 180 ls []) := by
                        intro t_best_70 hE  H locs ls hP hD hS hl
                        try rw [hE] at E
                        refine lv_iinc (v := nI (k5_48 + 5)) (lv' := [(5, .int (nI (k5_48 + 5))), (0, .ref tA), (1, .int (nI j_7)), (2, .int (nI j_14)), (3, .int (nI j_21)), (4, .int (nI k4_32))]) hx hb dX5_planned_180 hl (k := 5) rfl (nI_add k5_48 5) (by decide) rfl (fun ls hl => ?_)
                        refine lv_goto (tgt := 79) hx hb dX5_planned_183 (by decide) ?_
                        exact ih_55 (k5_48 + 5) t_when_64 t_most_65 t_mostAt_66 t_hiss_67 t_row_68 t_best_70 (by first | omega | assumption | exact Eq.trans (by assumption) (by assumption)) (by first | omega | assumption | exact Eq.trans (by assumption) (by assumption)) (by omega) E H locs ls hP hD hS (lv_sub hl [1, 2, 3, 4, 5, 0] rfl)
                      have E := E_71
                      refine lv_if_ge (tgt := 180) hx hb dX5_planned_136 (by decide) (fun c_72 => ?_) (fun c_72 => ?_)
                      · have E := x_pos E c_72
                        exact J_71 t_best_54 E  H locs ls hP hD hS (lv_sub hl [0, 1, 2, 3, 4, 5] rfl)
                      · have E := x_neg E c_72
                        refine lv_aload_n hx hb dX5_planned_139 rfl (lv_at hl 0 rfl) ?_
                        refine lv_iconst (v := 0) hx hb dX5_planned_140 (by decide) ?_
                        refine x_callVi (w2 := fun u => [(tA, .inr (5, [.int (nI t_length), .ref tA_text, .int (nI t_at), .int (nI t_begin), .int t_told, .ref tA_is, .ref tA_doings, .ref tA_doing, .int t_items, .ref tA_row, .ref tA_isKept, .int t_when_64, .int t_most_65, .int t_mostAt_66, .int t_hiss_67, .ref tA_best, .ref tA_heats, .ref tA_orders, .ref tA_has, .int (nI t_tests), .ref tA_salt, .ref tA_crumbs, .long t_traced, .int t_hasSkin, .int t_hasBend])), (tA_is, .inl (g.2.1 0, 18, .inl t_is)), (tA_row, .inl (g.2.1 0, 80, .inl t_row_68)), (tA_best, .inl (g.2.1 0, 3, .inl t_best_54))]) (wr := [(tA_is, .inl (g.2.1 0, 18, .inl t_is)), (tA_best, .inl (g.2.1 0, 3, .inl t_best_54))]) [0, 2] [1, 3] [2, 0, 3, 1] 0 5 ⟨hx, hb, hml, hown, hts⟩ hK hX hP hD hS hA (m_X5_brown l g tA tA_row tA_text tA_is tA_doings tA_doing tA_isKept tA_best tA_heats tA_orders tA_has tA_salt tA_crumbs t_length t_at t_begin t_told t_items t_when_64 t_most_65 t_mostAt_66 t_hiss_67 t_tests t_traced t_hasSkin t_hasBend t_row_68 0) (cwV 1 hts (x_gV kw_620 kw_621 kw_622 kw_5 kw_623) rfl rfl rfl vX5_brown ⟨Nat.le_of_ble_eq_true rfl, Nat.le_of_ble_eq_true rfl⟩) rfl rfl rfl rfl rfl rfl rfl (by decide) (fun _ => rfl) rfl rfl hl.1 rfl (Nat.le_of_ble_eq_true rfl) dX5_planned_141 ⟨Nat.zero_le _, Nat.zero_le _⟩ (fun z_73 _ H locs hw_74 hP hD hS => ?_)
                        have E := x_nm_eq E hw_74
                        refine lv_aload_n hx hb dX5_planned_144 rfl (lv_at hl 0 rfl) ?_
                        refine va_get (ci := 5) (v := .ref tA_best) (C := RX5) (T := TX5) (N := 25) hx hb hts inlX5 hown hK.1 hP 0 rfl rfl 15 (by decide) (hts _ kw_100) (fun _ h9 => h9) rfl dX5_planned_145 ?_
                        refine lv_iconst (v := 0) hx hb dX5_planned_148 (by decide) ?_
                        refine x_ialdN hx hb hK hP 3 0 rfl (by omega) (by decide) dX5_planned_149 ?_
                        refine lv_icmp_le (tgt := 180) hx hb dX5_planned_150 (by decide) (fun c_76 => ?_) (fun c_76 => ?_)
                        · have E := x_pos E c_76
                          exact J_71 t_best_54 E  H locs ls hP hD hS (lv_sub hl [0, 1, 2, 3, 4, 5] rfl)
                        · have E := x_neg E c_76
                          refine lv_aload_n hx hb dX5_planned_153 rfl (lv_at hl 0 rfl) ?_
                          refine va_get (ci := 5) (v := .ref tA_best) (C := RX5) (T := TX5) (N := 25) hx hb hts inlX5 hown hK.1 hP 0 rfl rfl 15 (by decide) (hts _ kw_100) (fun _ h9 => h9) rfl dX5_planned_154 ?_
                          refine lv_iconst (v := 0) hx hb dX5_planned_157 (by decide) ?_
                          refine lv_aload_n hx hb dX5_planned_158 rfl (lv_at hl 0 rfl) ?_
                          refine lv_iconst (v := 0) hx hb dX5_planned_159 (by decide) ?_
                          refine x_callVi (w2 := fun u => [(tA, .inr (5, [.int (nI t_length), .ref tA_text, .int (nI t_at), .int (nI t_begin), .int t_told, .ref tA_is, .ref tA_doings, .ref tA_doing, .int t_items, .ref tA_row, .ref tA_isKept, .int t_when_64, .int t_most_65, .int t_mostAt_66, .int t_hiss_67, .ref tA_best, .ref tA_heats, .ref tA_orders, .ref tA_has, .int (nI t_tests), .ref tA_salt, .ref tA_crumbs, .long t_traced, .int t_hasSkin, .int t_hasBend])), (tA_is, .inl (g.2.1 0, 18, .inl t_is)), (tA_row, .inl (g.2.1 0, 80, .inl t_row_68)), (tA_best, .inl (g.2.1 0, 3, .inl t_best_54))]) (wr := [(tA_is, .inl (g.2.1 0, 18, .inl t_is)), (tA_best, .inl (g.2.1 0, 3, .inl t_best_54))]) [0, 2] [1, 3] [2, 0, 3, 1] 0 5 ⟨hx, hb, hml, hown, hts⟩ hK hX hP hD hS hA (m_X5_brown l g tA tA_row tA_text tA_is tA_doings tA_doing tA_isKept tA_best tA_heats tA_orders tA_has tA_salt tA_crumbs t_length t_at t_begin t_told t_items t_when_64 t_most_65 t_mostAt_66 t_hiss_67 t_tests t_traced t_hasSkin t_hasBend t_row_68 0) (cwV 1 hts (x_gV kw_620 kw_621 kw_622 kw_5 kw_623) rfl rfl rfl vX5_brown ⟨Nat.le_of_ble_eq_true rfl, Nat.le_of_ble_eq_true rfl⟩) rfl rfl rfl rfl rfl rfl rfl (by decide) (fun _ => rfl) rfl rfl hl.1 rfl (Nat.le_of_ble_eq_true rfl) dX5_planned_160 ⟨Nat.zero_le _, Nat.zero_le _⟩ (fun z_77 _ H locs hw_78 hP hD hS => ?_)
                          have E := x_nm_eq E hw_78
                          refine x_iastN hx hb hK hP hD hS 3 0 rfl (by omega) (by decide) dX5_planned_163 (fun t_best_80 H locs hf hP hD hS => ?_)
                          have hP : va_P g.1 vwCl [(tA, .inr (5, [.int (nI t_length), .ref tA_text, .int (nI t_at), .int (nI t_begin), .int t_told, .ref tA_is, .ref tA_doings, .ref tA_doing, .int t_items, .ref tA_row, .ref tA_isKept, .int t_when_64, .int t_most_65, .int t_mostAt_66, .int t_hiss_67, .ref tA_best, .ref tA_heats, .ref tA_orders, .ref tA_has, .int (nI t_tests), .ref tA_salt, .ref tA_crumbs, .long t_traced, .int t_hasSkin, .int t_hasBend])), (tA_is, .inl (g.2.1 0, 18, .inl t_is)), (tA_row, .inl (g.2.1 0, 80, .inl t_row_68)), (tA_best, .inl (g.2.1 0, 3, .inl t_best_80))] H := hP
                          have hD : va_D A [(tA, .inr (5, [.int (nI t_length), .ref tA_text, .int (nI t_at), .int (nI t_begin), .int t_told, .ref tA_is, .ref tA_doings, .ref tA_doing, .int t_items, .ref tA_row, .ref tA_isKept, .int t_when_64, .int t_most_65, .int t_mostAt_66, .int t_hiss_67, .ref tA_best, .ref tA_heats, .ref tA_orders, .ref tA_has, .int (nI t_tests), .ref tA_salt, .ref tA_crumbs, .long t_traced, .int t_hasSkin, .int t_hasBend])), (tA_is, .inl (g.2.1 0, 18, .inl t_is)), (tA_row, .inl (g.2.1 0, 80, .inl t_row_68)), (tA_best, .inl (g.2.1 0, 3, .inl t_best_80))] := hD
                          have E := x_nm_eq E hf
                          refine lv_aload_n hx hb dX5_planned_164 rfl (lv_at hl 0 rfl) ?_
                          refine va_get (ci := 5) (v := .ref tA_best) (C := RX5) (T := TX5) (N := 25) hx hb hts inlX5 hown hK.1 hP 0 rfl rfl 15 (by decide) (hts _ kw_100) (fun _ h9 => h9) rfl dX5_planned_165 ?_
                          refine lv_iconst (v := 1) hx hb dX5_planned_168 (by decide) ?_
                          refine lv_iload hx hb dX5_planned_169 (lv_at hl 4 rfl) ?_
                          refine x_iastN hx hb hK hP hD hS 3 1 rfl (by omega) (by decide) dX5_planned_171 (fun t_best_81 H locs hf hP hD hS => ?_)
                          have hP : va_P g.1 vwCl [(tA, .inr (5, [.int (nI t_length), .ref tA_text, .int (nI t_at), .int (nI t_begin), .int t_told, .ref tA_is, .ref tA_doings, .ref tA_doing, .int t_items, .ref tA_row, .ref tA_isKept, .int t_when_64, .int t_most_65, .int t_mostAt_66, .int t_hiss_67, .ref tA_best, .ref tA_heats, .ref tA_orders, .ref tA_has, .int (nI t_tests), .ref tA_salt, .ref tA_crumbs, .long t_traced, .int t_hasSkin, .int t_hasBend])), (tA_is, .inl (g.2.1 0, 18, .inl t_is)), (tA_row, .inl (g.2.1 0, 80, .inl t_row_68)), (tA_best, .inl (g.2.1 0, 3, .inl t_best_81))] H := hP
                          have hD : va_D A [(tA, .inr (5, [.int (nI t_length), .ref tA_text, .int (nI t_at), .int (nI t_begin), .int t_told, .ref tA_is, .ref tA_doings, .ref tA_doing, .int t_items, .ref tA_row, .ref tA_isKept, .int t_when_64, .int t_most_65, .int t_mostAt_66, .int t_hiss_67, .ref tA_best, .ref tA_heats, .ref tA_orders, .ref tA_has, .int (nI t_tests), .ref tA_salt, .ref tA_crumbs, .long t_traced, .int t_hasSkin, .int t_hasBend])), (tA_is, .inl (g.2.1 0, 18, .inl t_is)), (tA_row, .inl (g.2.1 0, 80, .inl t_row_68)), (tA_best, .inl (g.2.1 0, 3, .inl t_best_81))] := hD
                          have E := x_nm_eq E hf
                          refine lv_aload_n hx hb dX5_planned_172 rfl (lv_at hl 0 rfl) ?_
                          refine va_get (ci := 5) (v := .ref tA_best) (C := RX5) (T := TX5) (N := 25) hx hb hts inlX5 hown hK.1 hP 0 rfl rfl 15 (by decide) (hts _ kw_100) (fun _ h9 => h9) rfl dX5_planned_173 ?_
                          refine lv_iconst (v := 2) hx hb dX5_planned_176 (by decide) ?_
                          refine lv_iload hx hb dX5_planned_177 (lv_at hl 5 rfl) ?_
                          refine x_iastN hx hb hK hP hD hS 3 2 rfl (by omega) (by decide) dX5_planned_179 (fun t_best_82 H locs hf hP hD hS => ?_)
                          have hP : va_P g.1 vwCl [(tA, .inr (5, [.int (nI t_length), .ref tA_text, .int (nI t_at), .int (nI t_begin), .int t_told, .ref tA_is, .ref tA_doings, .ref tA_doing, .int t_items, .ref tA_row, .ref tA_isKept, .int t_when_64, .int t_most_65, .int t_mostAt_66, .int t_hiss_67, .ref tA_best, .ref tA_heats, .ref tA_orders, .ref tA_has, .int (nI t_tests), .ref tA_salt, .ref tA_crumbs, .long t_traced, .int t_hasSkin, .int t_hasBend])), (tA_is, .inl (g.2.1 0, 18, .inl t_is)), (tA_row, .inl (g.2.1 0, 80, .inl t_row_68)), (tA_best, .inl (g.2.1 0, 3, .inl t_best_82))] H := hP
                          have hD : va_D A [(tA, .inr (5, [.int (nI t_length), .ref tA_text, .int (nI t_at), .int (nI t_begin), .int t_told, .ref tA_is, .ref tA_doings, .ref tA_doing, .int t_items, .ref tA_row, .ref tA_isKept, .int t_when_64, .int t_most_65, .int t_mostAt_66, .int t_hiss_67, .ref tA_best, .ref tA_heats, .ref tA_orders, .ref tA_has, .int (nI t_tests), .ref tA_salt, .ref tA_crumbs, .long t_traced, .int t_hasSkin, .int t_hasBend])), (tA_is, .inl (g.2.1 0, 18, .inl t_is)), (tA_row, .inl (g.2.1 0, 80, .inl t_row_68)), (tA_best, .inl (g.2.1 0, 3, .inl t_best_82))] := hD
                          have E := x_nm_eq E hf
                          exact J_71 t_best_82 E  H locs ls hP hD hS (lv_sub hl [0, 1, 2, 3, 4, 5] rfl)
                    have E := E_69
                    have L_89 : ∀ (n_89 : Nat) (k6_83 : Nat) (t_when_84 : Int32) (t_most_85 : Int32) (t_mostAt_86 : Int32) (t_hiss_87 : Int32) (t_row_88 : Nat → Int32), (k6_83 ≤ j_7) → ((j_7 - k6_83) < n_89) → o_69 = F_X5_planned_L94 t_is j_7 k4_32 k5_48 n_89 k6_83 t_when_84 t_most_85 t_mostAt_86 t_hiss_87 t_row_88 → ∀ (H : Heap) (locs : List Loc) (ls : Array Slot), va_P g.1 vwCl [(tA, .inr (5, [.int (nI t_length), .ref tA_text, .int (nI t_at), .int (nI t_begin), .int t_told, .ref tA_is, .ref tA_doings, .ref tA_doing, .int t_items, .ref tA_row, .ref tA_isKept, .int t_when_84, .int t_most_85, .int t_mostAt_86, .int t_hiss_87, .ref tA_best, .ref tA_heats, .ref tA_orders, .ref tA_has, .int (nI t_tests), .ref tA_salt, .ref tA_crumbs, .long t_traced, .int t_hasSkin, .int t_hasBend])), (tA_is, .inl (g.2.1 0, 18, .inl t_is)), (tA_row, .inl (g.2.1 0, 80, .inl t_row_88)), (tA_best, .inl (g.2.1 0, 3, .inl t_best_54))] H → va_D A [(tA, .inr (5, [.int (nI t_length), .ref tA_text, .int (nI t_at), .int (nI t_begin), .int t_told, .ref tA_is, .ref tA_doings, .ref tA_doing, .int t_items, .ref tA_row, .ref tA_isKept, .int t_when_84, .int t_most_85, .int t_mostAt_86, .int t_hiss_87, .ref tA_best, .ref tA_heats, .ref tA_orders, .ref tA_has, .int (nI t_tests), .ref tA_salt, .ref tA_crumbs, .long t_traced, .int t_hasSkin, .int t_hasBend])), (tA_is, .inl (g.2.1 0, 18, .inl t_is)), (tA_row, .inl (g.2.1 0, 80, .inl t_row_88)), (tA_best, .inl (g.2.1 0, 3, .inl t_best_54))] → va_S A s.heap H locs → lv_has ls 7 [(0, .ref tA), (1, .int (nI j_7)), (2, .int (nI j_14)), (3, .int (nI j_21)), (4, .int (nI k4_32)), (5, .int (nI k5_48)), (6, .int (nI k6_83))] → W p l e rX5_planned s m args below meth c H locs 0 0 Q (F0 m 94 ls []) := by
                      intro n_89
                      induction n_89 with
                      | zero => intro k6_83 t_when_84 t_most_85 t_mostAt_86 t_hiss_87 t_row_88 i_89_0 i_89_1; exact absurd i_89_1 (by omega)
                      | succ n_89 ih_89 =>
                        intro k6_83 t_when_84 t_most_85 t_mostAt_86 t_hiss_87 t_row_88 i_89_0 i_89_1 E H locs ls hP hD hS hl
                        rw [F_X5_planned_L94.eq_2] at E
                        refine lv_iload hx hb dX5_planned_94 (lv_at hl 6 rfl) ?_
                        refine lv_iload_n hx hb dX5_planned_96 rfl (lv_at hl 1 rfl) ?_
                        refine x_icmp_ge (a := k6_83) (b := j_7) (tgt := 132) hx hb (by omega) (by omega) dX5_planned_97 (by decide) (fun c_90 => ?_) (fun c_90 => ?_)
                        · have E := x_pos E c_90
                          exact J_69 t_when_84 t_most_85 t_mostAt_86 t_hiss_87 t_row_88 E  H locs ls hP hD hS (lv_sub hl [0, 1, 2, 3, 4, 5] rfl)
                        · have E := x_neg E c_90
                          refine lv_iload hx hb dX5_planned_100 (lv_at hl 6 rfl) ?_
                          obtain ⟨o_92, E_92, E⟩ := x_nm_ex E
                          have J_92 : ∀ (t_row_91 : Nat → Int32), o_92 = t_row_91 → ∀ (H : Heap) (locs : List Loc) (ls : Array Slot), va_P g.1 vwCl [(tA, .inr (5, [.int (nI t_length), .ref tA_text, .int (nI t_at), .int (nI t_begin), .int t_told, .ref tA_is, .ref tA_doings, .ref tA_doing, .int t_items, .ref tA_row, .ref tA_isKept, .int t_when_84, .int t_most_85, .int t_mostAt_86, .int t_hiss_87, .ref tA_best, .ref tA_heats, .ref tA_orders, .ref tA_has, .int (nI t_tests), .ref tA_salt, .ref tA_crumbs, .long t_traced, .int t_hasSkin, .int t_hasBend])), (tA_is, .inl (g.2.1 0, 18, .inl t_is)), (tA_row, .inl (g.2.1 0, 80, .inl t_row_91)), (tA_best, .inl (g.2.1 0, 3, .inl t_best_54))] H → va_D A [(tA, .inr (5, [.int (nI t_length), .ref tA_text, .int (nI t_at), .int (nI t_begin), .int t_told, .ref tA_is, .ref tA_doings, .ref tA_doing, .int t_items, .ref tA_row, .ref tA_isKept, .int t_when_84, .int t_most_85, .int t_mostAt_86, .int t_hiss_87, .ref tA_best, .ref tA_heats, .ref tA_orders, .ref tA_has, .int (nI t_tests), .ref tA_salt, .ref tA_crumbs, .long t_traced, .int t_hasSkin, .int t_hasBend])), (tA_is, .inl (g.2.1 0, 18, .inl t_is)), (tA_row, .inl (g.2.1 0, 80, .inl t_row_91)), (tA_best, .inl (g.2.1 0, 3, .inl t_best_54))] → va_S A s.heap H locs → lv_has ls 7 [(0, .ref tA), (1, .int (nI j_7)), (2, .int (nI j_14)), (3, .int (nI j_21)), (4, .int (nI k4_32)), (5, .int (nI k5_48)), (6, .int (nI k6_83))] → W p l e rX5_planned s m args below meth c H locs 0 0 Q (F0 m 119 ls []) := by
                            intro t_row_91 hE  H locs ls hP hD hS hl
                            try rw [hE] at E
                            refine lv_aload_n hx hb dX5_planned_119 rfl (lv_at hl 0 rfl) ?_
                            refine lv_iload hx hb dX5_planned_120 (lv_at hl 4 rfl) ?_
                            refine lv_iconst (v := 0) hx hb dX5_planned_122 (by decide) ?_
                            refine x_callVv (w2 := fun u => [(tA, .inr (5, [.int (nI t_length), .ref tA_text, .int (nI t_at), .int (nI t_begin), .int t_told, .ref tA_is, .ref tA_doings, .ref tA_doing, .int t_items, .ref tA_row, .ref tA_isKept, .int u.1, .int u.2.1, .int u.2.2.1, .int u.2.2.2.1, .ref tA_best, .ref tA_heats, .ref tA_orders, .ref tA_has, .int (nI t_tests), .ref tA_salt, .ref tA_crumbs, .long t_traced, .int t_hasSkin, .int t_hasBend])), (tA_is, .inl (g.2.1 0, 18, .inl t_is)), (tA_row, .inl (g.2.1 0, 80, .inl u.2.2.2.2)), (tA_best, .inl (g.2.1 0, 3, .inl t_best_54))]) (wr := [(tA_best, .inl (g.2.1 0, 3, .inl t_best_54))]) [0, 1, 2] [3] [1, 2, 3, 0] 0 5 ⟨hx, hb, hml, hown, hts⟩ hK hX hP hD hS hA (m_X5_tried l g tA tA_is tA_row tA_text tA_doings tA_doing tA_isKept tA_best tA_heats tA_orders tA_has tA_salt tA_crumbs t_length t_at t_begin t_told t_items t_when_84 t_most_85 t_mostAt_86 t_hiss_87 t_tests t_traced t_hasSkin t_hasBend t_is t_row_91 (nI k4_32) 0 (by first | assumption | omega | exact x_e8 (by assumption) (by assumption))) (cwV 2 hts (x_gV kw_616 kw_617 kw_618 kw_5 kw_619) rfl rfl rfl vX5_tried ⟨Nat.le_of_ble_eq_true rfl, Nat.le_of_ble_eq_true rfl⟩) rfl rfl rfl rfl rfl rfl rfl (by decide) (fun _ => rfl) rfl rfl hl.1 rfl (Nat.le_of_ble_eq_true rfl) dX5_planned_123 ⟨Nat.zero_le _, Nat.zero_le _⟩ (fun u H locs hw_98 hP hD hS => ?_)
                            obtain ⟨t_when_93, t_most_94, t_mostAt_95, t_hiss_96, t_row_97⟩ := u
                            have hP : va_P g.1 vwCl [(tA, .inr (5, [.int (nI t_length), .ref tA_text, .int (nI t_at), .int (nI t_begin), .int t_told, .ref tA_is, .ref tA_doings, .ref tA_doing, .int t_items, .ref tA_row, .ref tA_isKept, .int t_when_93, .int t_most_94, .int t_mostAt_95, .int t_hiss_96, .ref tA_best, .ref tA_heats, .ref tA_orders, .ref tA_has, .int (nI t_tests), .ref tA_salt, .ref tA_crumbs, .long t_traced, .int t_hasSkin, .int t_hasBend])), (tA_is, .inl (g.2.1 0, 18, .inl t_is)), (tA_row, .inl (g.2.1 0, 80, .inl t_row_97)), (tA_best, .inl (g.2.1 0, 3, .inl t_best_54))] H := hP
                            have hD : va_D A [(tA, .inr (5, [.int (nI t_length), .ref tA_text, .int (nI t_at), .int (nI t_begin), .int t_told, .ref tA_is, .ref tA_doings, .ref tA_doing, .int t_items, .ref tA_row, .ref tA_isKept, .int t_when_93, .int t_most_94, .int t_mostAt_95, .int t_hiss_96, .ref tA_best, .ref tA_heats, .ref tA_orders, .ref tA_has, .int (nI t_tests), .ref tA_salt, .ref tA_crumbs, .long t_traced, .int t_hasSkin, .int t_hasBend])), (tA_is, .inl (g.2.1 0, 18, .inl t_is)), (tA_row, .inl (g.2.1 0, 80, .inl t_row_97)), (tA_best, .inl (g.2.1 0, 3, .inl t_best_54))] := hD
                            have E := x_nm_eq E hw_98
                            refine lv_iinc (v := nI (k6_83 + 1)) (lv' := [(6, .int (nI (k6_83 + 1))), (0, .ref tA), (1, .int (nI j_7)), (2, .int (nI j_14)), (3, .int (nI j_21)), (4, .int (nI k4_32)), (5, .int (nI k5_48))]) hx hb dX5_planned_126 hl (k := 6) rfl (nI_1 k6_83) (by decide) rfl (fun ls hl => ?_)
                            refine lv_goto (tgt := 94) hx hb dX5_planned_129 (by decide) ?_
                            exact ih_89 (k6_83 + 1) t_when_93 t_most_94 t_mostAt_95 t_hiss_96 t_row_97 (by first | omega | assumption | exact Eq.trans (by assumption) (by assumption)) (by omega) E H locs ls hP hD hS (lv_sub hl [1, 2, 3, 4, 5, 6, 0] rfl)
                          have E := E_92
                          refine x_if_le (a := k6_83) (tgt := 119) hx hb (by omega) dX5_planned_102 (by decide) (fun c_100 => ?_) (fun c_100 => ?_)
                          · have E := x_pos E c_100
                            exact J_92 t_row_88 E  H locs ls hP hD hS (lv_sub hl [0, 1, 2, 3, 4, 5, 6] rfl)
                          · have E := x_neg E c_100
                            refine lv_iload hx hb dX5_planned_105 (lv_at hl 6 rfl) ?_
                            refine lv_iload hx hb dX5_planned_107 (lv_at hl 5 rfl) ?_
                            refine lv_irem hx hb dX5_planned_109 (nI_ne0 (n := k5_48) (by omega) (by omega)) ?_
                            refine x_eqi (pk_rem (a := k6_83) (d := k5_48) (by omega) (by omega) (by omega)) ?_
                            have hm := Nat.mod_lt k6_83 (show k5_48 > 0 by omega)
                            refine x_if_ne (a := (k6_83 % k5_48)) (tgt := 119) hx hb (by omega) dX5_planned_110 (by decide) (fun c_101 => ?_) (fun c_101 => ?_)
                            · have E := x_neg E c_101
                              exact J_92 t_row_88 E  H locs ls hP hD hS (lv_sub hl [0, 1, 2, 3, 4, 5, 6] rfl)
                            · have E := x_pos E c_101
                              refine lv_aload_n hx hb dX5_planned_113 rfl (lv_at hl 0 rfl) ?_
                              refine lv_iconst (v := 3) hx hb dX5_planned_114 (by decide) ?_
                              refine lv_iconst (v := 1) hx hb dX5_planned_115 (by decide) ?_
                              refine x_callVv (w2 := fun u => [(tA, .inr (5, [.int (nI t_length), .ref tA_text, .int (nI t_at), .int (nI t_begin), .int t_told, .ref tA_is, .ref tA_doings, .ref tA_doing, .int t_items, .ref tA_row, .ref tA_isKept, .int t_when_84, .int t_most_85, .int t_mostAt_86, .int t_hiss_87, .ref tA_best, .ref tA_heats, .ref tA_orders, .ref tA_has, .int (nI t_tests), .ref tA_salt, .ref tA_crumbs, .long t_traced, .int t_hasSkin, .int t_hasBend])), (tA_is, .inl (g.2.1 0, 18, .inl t_is)), (tA_row, .inl (g.2.1 0, 80, .inl u)), (tA_best, .inl (g.2.1 0, 3, .inl t_best_54))]) (wr := [(tA_is, .inl (g.2.1 0, 18, .inl t_is)), (tA_best, .inl (g.2.1 0, 3, .inl t_best_54))]) [0, 2] [1, 3] [2, 0, 3, 1] 0 5 ⟨hx, hb, hml, hown, hts⟩ hK hX hP hD hS hA (m_X5_turns l g tA tA_row tA_text tA_is tA_doings tA_doing tA_isKept tA_best tA_heats tA_orders tA_has tA_salt tA_crumbs t_length t_at t_begin t_told t_items t_when_84 t_most_85 t_mostAt_86 t_hiss_87 t_tests t_traced t_hasSkin t_hasBend t_row_88 3 1 (by first | assumption | omega | exact x_e8 (by assumption) (by assumption))) (cwV 2 hts (x_gV kw_484 kw_485 kw_486 kw_5 kw_487) rfl rfl rfl vX5_turns ⟨Nat.le_of_ble_eq_true rfl, Nat.le_of_ble_eq_true rfl⟩) rfl rfl rfl rfl rfl rfl rfl (by decide) (fun _ => rfl) rfl rfl hl.1 rfl (Nat.le_of_ble_eq_true rfl) dX5_planned_116 ⟨Nat.zero_le _, Nat.zero_le _⟩ (fun t_row_102 H locs hw_103 hP hD hS => ?_)
                              have hP : va_P g.1 vwCl [(tA, .inr (5, [.int (nI t_length), .ref tA_text, .int (nI t_at), .int (nI t_begin), .int t_told, .ref tA_is, .ref tA_doings, .ref tA_doing, .int t_items, .ref tA_row, .ref tA_isKept, .int t_when_84, .int t_most_85, .int t_mostAt_86, .int t_hiss_87, .ref tA_best, .ref tA_heats, .ref tA_orders, .ref tA_has, .int (nI t_tests), .ref tA_salt, .ref tA_crumbs, .long t_traced, .int t_hasSkin, .int t_hasBend])), (tA_is, .inl (g.2.1 0, 18, .inl t_is)), (tA_row, .inl (g.2.1 0, 80, .inl t_row_102)), (tA_best, .inl (g.2.1 0, 3, .inl t_best_54))] H := hP
                              have hD : va_D A [(tA, .inr (5, [.int (nI t_length), .ref tA_text, .int (nI t_at), .int (nI t_begin), .int t_told, .ref tA_is, .ref tA_doings, .ref tA_doing, .int t_items, .ref tA_row, .ref tA_isKept, .int t_when_84, .int t_most_85, .int t_mostAt_86, .int t_hiss_87, .ref tA_best, .ref tA_heats, .ref tA_orders, .ref tA_has, .int (nI t_tests), .ref tA_salt, .ref tA_crumbs, .long t_traced, .int t_hasSkin, .int t_hasBend])), (tA_is, .inl (g.2.1 0, 18, .inl t_is)), (tA_row, .inl (g.2.1 0, 80, .inl t_row_102)), (tA_best, .inl (g.2.1 0, 3, .inl t_best_54))] := hD
                              have E := x_nm_eq E hw_103
                              exact J_92 t_row_102 E  H locs ls hP hD hS (lv_sub hl [0, 1, 2, 3, 4, 5, 6] rfl)
                    exact L_89 (j_7 + 1) 0 t_when_57 t_most_58 t_mostAt_59 t_hiss_60 t_row_61 (by first | omega | assumption | rfl) (by omega) E H locs ls hP hD hS (lv_sub hl [1, 2, 3, 4, 5, 6, 0] rfl)
              exact L_55 46 5 t_when_33 t_most_34 t_mostAt_35 t_hiss_36 t_row_37 t_best_38 (by first | omega | assumption | rfl) (by first | omega | assumption | rfl) (by omega) E H locs ls hP hD hS (lv_sub hl [1, 2, 3, 4, 5, 0] rfl)
        exact L_39 281 80 t_when t_most t_mostAt t_hiss t_row t_best_24 (by first | omega | assumption | rfl) (by omega) E H locs ls hP hD hS (lv_sub hl [1, 2, 3, 4, 0] rfl)
      · have E := x_pos E c_19
        refine lv_iconst (v := (-1)) hx hb dX5_planned_38 (by decide) ?_
        exact RET (-1) (t_when, t_most, t_mostAt, t_hiss, t_row, t_best) H locs _ _ (E.symm.trans hO) rfl hP hD hS dX5_planned_39
