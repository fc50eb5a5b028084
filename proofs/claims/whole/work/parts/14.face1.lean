abbrev rX2_append : Room := { frames := 0, cells := 0, slots := 0, locals := 0 }
theorem vX2_append : yX2_append.cls = RX2 ∧ yX2_append.cls ≠ "java/lang/invoke/MethodHandle" ∧ yX2_append.cls ≠ "java/lang/invoke/VarHandle" ∧ (parseMethodDescriptor yX2_append.desc).map (fun d => d.parameters.length) = some 1 := by decide +kernel
abbrev wX2_append : List Cond := Cond.code yX2_append cX2_append 2 none :: wsL_law
def F_X2_append (t_text : Nat → Int32) (t_length : Nat) (a1 : Int32) : Nat × (Nat → Int32) :=
  x_nm (α := Nat × (Nat → Int32)) (if (nI t_length) < 0 then (t_length, t_text) else if 300 ≤ t_length then (t_length, t_text) else x_nm (upd t_text t_length a1) fun t_text_6 => (t_length + 1, t_text_6)) fun u_3 => (u_3.1, u_3.2)
set_option maxHeartbeats 4000000 in
set_option maxRecDepth 100000 in
theorem m_X2_append (l : Launch) (g : x_G) (tA tA_text tA_numbers : Nat) (t_length : Nat) (t_token : Int32) (t_place : Nat) (t_next : Nat) (t_value : Int32) (t_skinTold : Int32) (t_bentTold : Int32) (t_text : Nat → Int32) (a1 : Int32) (h_0 : t_length ≤ 300) : x_MetV l yX2_append wX2_append rX2_append g [.ref tA, .int a1] [(tA, .inr (2, [.ref tA_text, .int (nI t_length), .ref tA_numbers, .int t_token, .int (nI t_place), .int (nI t_next), .int t_value, .int t_skinTold, .int t_bentTold])), (tA_text, .inl (g.2.1 0, 300, .inl t_text))] (fun u : Nat × (Nat → Int32) => (u = F_X2_append t_text t_length a1) ∧ (u.1 ≤ 300) ∧ (u.1 ≤ t_length + 1)) (fun u => [(tA, .inr (2, [.ref tA_text, .int (nI u.1), .ref tA_numbers, .int t_token, .int (nI t_place), .int (nI t_next), .int t_value, .int t_skinTold, .int t_bentTold])), (tA_text, .inl (g.2.1 0, 300, .inl u.2))]) := by
  refine x_startV (cc := cX2_append) (maxL := 2) (by decide) rfl (Nat.le_of_ble_eq_true rfl) ?_
  intro p e s m args below meth c Q A ls H locs hx hb hml hown hts hK hX hP hD hS hA hl RET
  have hown : s.vm.findClass RX2 = some m.cls := hown
  have hl : lv_has ls 2 [(0, .ref tA), (1, .int a1)] := hl
  obtain ⟨o_0, hO⟩ : ∃ z, z = F_X2_append t_text t_length a1 := ⟨_, rfl⟩
  have E := hO
  rw [F_X2_append.eq_1] at E
  refine lv_aload_n hx hb dX2_append_0 rfl (lv_at hl 0 rfl) ?_
  refine va_get (ci := 2) (v := .int (nI t_length)) (C := RX2) (T := TX2) (N := 9) hx hb hts inlX2 hown hK.1 hP 0 rfl rfl 1 (by decide) (hts _ kw_122) (fun _ h9 => h9) rfl dX2_append_1 ?_
  obtain ⟨o_3, E_3, E⟩ := x_nm_ex E
  have J_3 : ∀ (t_length_1 : Nat) (t_text_2 : Nat → Int32), o_3 = (t_length_1, t_text_2) → (t_length_1 ≤ 300) → (t_length_1 ≤ t_length + 1) → ∀ (H : Heap) (locs : List Loc) (ls : Array Slot), va_P g.1 vwCl [(tA, .inr (2, [.ref tA_text, .int (nI t_length_1), .ref tA_numbers, .int t_token, .int (nI t_place), .int (nI t_next), .int t_value, .int t_skinTold, .int t_bentTold])), (tA_text, .inl (g.2.1 0, 300, .inl t_text_2))] H → va_D A [(tA, .inr (2, [.ref tA_text, .int (nI t_length_1), .ref tA_numbers, .int t_token, .int (nI t_place), .int (nI t_next), .int t_value, .int t_skinTold, .int t_bentTold])), (tA_text, .inl (g.2.1 0, 300, .inl t_text_2))] → va_S A s.heap H locs → lv_has ls 2 [] → W p l e rX2_append s m args below meth c H locs 0 0 Q (F0 m 37 ls []) := by
    intro t_length_1 t_text_2 hE f_3_0 f_3_1 H locs ls hP hD hS hl
    try rw [hE] at E
    exact RET (t_length_1, t_text_2) H locs _ _ ⟨E.symm.trans hO, (show t_length_1 ≤ 300 by first | omega | assumption | exact Or.inl rfl | exact Or.inr (by omega)), (show t_length_1 ≤ t_length + 1 by first | omega | assumption | exact Or.inl rfl | exact Or.inr (by omega))⟩ hP hD hS dX2_append_37
  have E := E_3
  refine lv_if_lt (tgt := 37) hx hb dX2_append_4 (by decide) (fun c_4 => ?_) (fun c_4 => ?_)
  · have E := x_pos E c_4
    exact J_3 t_length t_text E (by first | omega | assumption | rfl | exact Or.inl rfl | exact Or.inr (by omega)) (by first | omega | assumption | rfl | exact Or.inl rfl | exact Or.inr (by omega)) H locs ls hP hD hS (lv_sub hl [] rfl)
  · have E := x_neg E c_4
    refine lv_aload_n hx hb dX2_append_7 rfl (lv_at hl 0 rfl) ?_
    refine va_get (ci := 2) (v := .int (nI t_length)) (C := RX2) (T := TX2) (N := 9) hx hb hts inlX2 hown hK.1 hP 0 rfl rfl 1 (by decide) (hts _ kw_122) (fun _ h9 => h9) rfl dX2_append_8 ?_
    refine lv_sipush (v := 300) hx hb dX2_append_11 (by decide) ?_
    refine x_icmp_ge (a := t_length) (b := 300) (tgt := 37) hx hb (by omega) (by omega) dX2_append_14 (by decide) (fun c_5 => ?_) (fun c_5 => ?_)
    · have E := x_pos E c_5
      exact J_3 t_length t_text E (by first | omega | assumption | rfl | exact Or.inl rfl | exact Or.inr (by omega)) (by first | omega | assumption | rfl | exact Or.inl rfl | exact Or.inr (by omega)) H locs ls hP hD hS (lv_sub hl [] rfl)
    · have E := x_neg E c_5
      refine lv_aload_n hx hb dX2_append_17 rfl (lv_at hl 0 rfl) ?_
      refine va_get (ci := 2) (v := .ref tA_text) (C := RX2) (T := TX2) (N := 9) hx hb hts inlX2 hown hK.1 hP 0 rfl rfl 0 (by decide) (hts _ kw_63) (fun _ h9 => h9) rfl dX2_append_18 ?_
      refine lv_aload_n hx hb dX2_append_21 rfl (lv_at hl 0 rfl) ?_
      refine va_get (ci := 2) (v := .int (nI t_length)) (C := RX2) (T := TX2) (N := 9) hx hb hts inlX2 hown hK.1 hP 0 rfl rfl 1 (by decide) (hts _ kw_122) (fun _ h9 => h9) rfl dX2_append_22 ?_
      refine lv_iload_n hx hb dX2_append_25 rfl (lv_at hl 1 rfl) ?_
      refine x_iastN hx hb hK hP hD hS 1 t_length rfl (by omega) (by decide) dX2_append_26 (fun t_text_6 H locs hf hP hD hS => ?_)
      have hP : va_P g.1 vwCl [(tA, .inr (2, [.ref tA_text, .int (nI t_length), .ref tA_numbers, .int t_token, .int (nI t_place), .int (nI t_next), .int t_value, .int t_skinTold, .int t_bentTold])), (tA_text, .inl (g.2.1 0, 300, .inl t_text_6))] H := hP
      have hD : va_D A [(tA, .inr (2, [.ref tA_text, .int (nI t_length), .ref tA_numbers, .int t_token, .int (nI t_place), .int (nI t_next), .int t_value, .int t_skinTold, .int t_bentTold])), (tA_text, .inl (g.2.1 0, 300, .inl t_text_6))] := hD
      have E := x_nm_eq E hf
      refine lv_aload_n hx hb dX2_append_27 rfl (lv_at hl 0 rfl) ?_
      refine lv_dup hx hb dX2_append_28 rfl ?_
      refine va_get (ci := 2) (v := .int (nI t_length)) (C := RX2) (T := TX2) (N := 9) hx hb hts inlX2 hown hK.1 hP 0 rfl rfl 1 (by decide) (hts _ kw_122) (fun _ h9 => h9) rfl dX2_append_29 ?_
      refine lv_iconst (v := 1) hx hb dX2_append_32 (by decide) ?_
      refine lv_iadd hx hb dX2_append_33 ?_
      refine x_eqi (nI_add t_length 1) ?_
      refine va_put (ci := 2) (v := .int (nI (t_length + 1))) (ty := .int) (C := RX2) (T := TX2) (N := 9) hx hb hts inlX2 tyX2 tyX2_ok nmX2 hown hK.1 hP hD hS 0 rfl rfl 1 (by decide) (hts _ kw_122) (fun _ h9 => h9) rfl (tyX2_ok 1 (by decide)) rfl rfl (Nat.le_of_ble_eq_true rfl) dX2_append_34 (fun H locs hP hD hS => ?_)
      have hP : va_P g.1 vwCl [(tA, .inr (2, [.ref tA_text, .int (nI (t_length + 1)), .ref tA_numbers, .int t_token, .int (nI t_place), .int (nI t_next), .int t_value, .int t_skinTold, .int t_bentTold])), (tA_text, .inl (g.2.1 0, 300, .inl t_text_6))] H := hP
      have hD : va_D A [(tA, .inr (2, [.ref tA_text, .int (nI (t_length + 1)), .ref tA_numbers, .int t_token, .int (nI t_place), .int (nI t_next), .int t_value, .int t_skinTold, .int t_bentTold])), (tA_text, .inl (g.2.1 0, 300, .inl t_text_6))] := hD
      exact J_3 (t_length + 1) t_text_6 E (by first | omega | assumption | rfl | exact Or.inl rfl | exact Or.inr (by omega)) (by first | omega | assumption | rfl | exact Or.inl rfl | exact Or.inr (by omega)) H locs ls hP hD hS (lv_sub hl [] rfl)
abbrev rX4_type : Room := { frames := 1, cells := 0, slots := 0, locals := 22 }
theorem vX4_type : yX4_type.cls = RX4 ∧ yX4_type.cls ≠ "java/lang/invoke/MethodHandle" ∧ yX4_type.cls ≠ "java/lang/invoke/VarHandle" ∧ (parseMethodDescriptor yX4_type.desc).map (fun d => d.parameters.length) = some 2 := by decide +kernel
abbrev wX4_type : List Cond := Cond.code yX4_type cX4_type 5 (some .int) :: wsL_law
def F_X4_type_L35 (a1 : Int64) : Nat → Nat → Nat → (Nat → Int32) → Nat × (Nat → Int32)
  | 0, m4_12, e_length_13, e_text_14 => (e_length_13, e_text_14)
  | n_15 + 1, m4_12, e_length_13, e_text_14 => if m4_12 = 0 then (e_length_13, e_text_14) else x_nm (F_X2_append e_text_14 e_length_13 ((((a1.toUInt64 >>> ((nI (8 * (m4_12 - 1))).toInt64.toUInt64 &&& Int64.toUInt64 63)).toInt64).toInt32) &&& 255)) fun u_20 => F_X4_type_L35 a1 n_15 (m4_12 - 1) u_20.1 u_20.2
def F_X4_type (e_text : Nat → Int32) (e_length : Nat) (a1 : Int64) (a2 : Int32) : Int32 × Nat × (Nat → Int32) :=
  x_nm (F_X4_outside a2 1 8) fun z_1 => if z_1 = 0 then x_nm (a2.toNatClampNeg) fun j_7 => if (e_length + j_7) ≤ 300 then x_nm (α := Nat × (Nat → Int32)) (F_X4_type_L35 a1 9 ((j_7 - 1) + 1) e_length e_text) fun u_11 => (nI u_11.1, u_11.1, u_11.2) else ((-3), e_length, e_text) else ((-1), e_length, e_text)
set_option maxHeartbeats 4000000 in
set_option maxRecDepth 100000 in
theorem m_X4_type (l : Launch) (g : x_G) (tA eA eA_text rA dA cA mA jA tA_images tA_kept tA_heats tA_salts tA_crumbsOf eA_numbers : Nat) (t_tests : Nat) (t_traced : Int64) (t_dryWeight : Int32) (e_length : Nat) (e_token : Int32) (e_place : Nat) (e_next : Nat) (e_value : Int32) (e_skinTold : Int32) (e_bentTold : Int32) (e_text : Nat → Int32) (a1 : Int64) (a2 : Int32) (h_0 : e_length ≤ 300) : x_MetI l yX4_type wX4_type rX4_type g [.ref tA, .long a1, .int a2] [(tA, .inr (4, [.ref rA, .ref dA, .ref cA, .ref eA, .ref mA, .ref jA, .ref tA_images, .ref tA_kept, .ref tA_heats, .ref tA_salts, .ref tA_crumbsOf, .int (nI t_tests), .long t_traced, .int t_dryWeight])), (eA, .inr (2, [.ref eA_text, .int (nI e_length), .ref eA_numbers, .int e_token, .int (nI e_place), .int (nI e_next), .int e_value, .int e_skinTold, .int e_bentTold])), (eA_text, .inl (g.2.1 0, 300, .inl e_text))] (fun (r : Int32) (u : Nat × (Nat → Int32)) => ((r, u) = F_X4_type e_text e_length a1 a2) ∧ (u.1 ≤ 300)) (fun u => [(tA, .inr (4, [.ref rA, .ref dA, .ref cA, .ref eA, .ref mA, .ref jA, .ref tA_images, .ref tA_kept, .ref tA_heats, .ref tA_salts, .ref tA_crumbsOf, .int (nI t_tests), .long t_traced, .int t_dryWeight])), (eA, .inr (2, [.ref eA_text, .int (nI u.1), .ref eA_numbers, .int e_token, .int (nI e_place), .int (nI e_next), .int e_value, .int e_skinTold, .int e_bentTold])), (eA_text, .inl (g.2.1 0, 300, .inl u.2))]) := by
  refine x_startI (cc := cX4_type) (maxL := 5) (by decide) rfl (Nat.le_of_ble_eq_true rfl) ?_
  intro p e s m args below meth c Q A ls H locs hx hb hml hown hts hK hX hP hD hS hA hl RET
  have hown : s.vm.findClass RX4 = some m.cls := hown
  have hl : lv_has ls 5 [(0, .ref tA), (1, .long a1), (3, .int a2)] := hl
  obtain ⟨o_0, hO⟩ : ∃ z, z = F_X4_type e_text e_length a1 a2 := ⟨_, rfl⟩
  have E := hO
  rw [F_X4_type.eq_1] at E
  refine lv_iload_n hx hb dX4_type_0 rfl (lv_at hl 2 rfl) ?_
  refine lv_iconst (v := 1) hx hb dX4_type_1 (by decide) ?_
  refine lv_bipush (v := 8) hx hb dX4_type_2 (by decide) ?_
  refine x_callS0 ⟨hx, hb, hml, hown, hts⟩ hK hX hP hD hS hA (m_X4_outside l g a2 1 8) (va_cwS 3 hts (x_gS kw_115 kw_116 kw_2 kw_117) rfl rfl rfl vX4_outsideS ⟨Nat.le_of_ble_eq_true rfl, Nat.le_of_ble_eq_true rfl⟩) rfl hl.1 rfl (Nat.le_of_ble_eq_true rfl) dX4_type_4 ⟨Nat.zero_le _, Nat.zero_le _⟩ (fun z_1 _ H locs hw_2 hP hD hS => ?_)
  obtain ⟨hw_2, b_3⟩ := hw_2
  have E := x_nm_eq E hw_2
  refine lv_if_eq (tgt := 12) hx hb dX4_type_7 (by decide) (fun c_5 => ?_) (fun c_5 => ?_)
  · have E := x_pos E c_5
    obtain ⟨j_7, hj⟩ : ∃ z, z = (a2).toNatClampNeg := ⟨_, rfl⟩
    have r_6_0 := (x_outs (lo := 1) (hi := 8) (by omega) (by omega) (hw_2.symm.trans c_5))
    rw [← hj] at r_6_0
    obtain ⟨r_6_0_a, r_6_0_b, e_6_0⟩ := r_6_0
    have E := x_nm_eq E hj
    have hl : lv_has ls 5 [(0, .ref tA), (1, .long a1), (3, .int (nI j_7))] := by rw [e_6_0] at hl; exact hl
    refine lv_aload_n hx hb dX4_type_12 rfl (lv_at hl 0 rfl) ?_
    refine va_get (ci := 4) (v := .ref eA) (C := RX4) (T := TX4) (N := 14) hx hb hts inlX4 hown hK.1 hP 0 rfl rfl 3 (by decide) (hts _ kw_22) (fun _ h9 => h9) rfl dX4_type_13 ?_
    refine va_get (ci := 2) (v := .int (nI e_length)) (C := RX2) (T := TX2) (N := 9) hx hb hts inlX2 hown hK.1 hP 1 rfl rfl 1 (by decide) (hts _ kw_114) (fun _ h9 => h9) rfl dX4_type_16 ?_
    refine lv_iload_n hx hb dX4_type_19 rfl (lv_at hl 2 rfl) ?_
    refine lv_iadd hx hb dX4_type_20 ?_
    refine x_eqi (nI_add e_length j_7) ?_
    refine lv_sipush (v := 300) hx hb dX4_type_21 (by decide) ?_
    refine x_icmp_le (a := (e_length + j_7)) (b := 300) (tgt := 30) hx hb (by omega) (by omega) dX4_type_24 (by decide) (fun c_8 => ?_) (fun c_8 => ?_)
    · have E := x_pos E c_8
      refine lv_iload_n hx hb dX4_type_30 rfl (lv_at hl 2 rfl) ?_
      refine lv_iconst (v := 1) hx hb dX4_type_31 (by decide) ?_
      refine lv_isub hx hb dX4_type_32 ?_
      refine x_eqi (pk_sub (a := j_7) (b := 1) (by omega)) ?_
      refine lv_istore (lv' := [(4, .int (nI (j_7 - 1))), (0, .ref tA), (1, .long a1), (3, .int (nI j_7))]) hx hb dX4_type_33 hl (by decide) rfl (fun ls hl => ?_)
      obtain ⟨o_11, E_11, E⟩ := x_nm_ex E
      have J_11 : ∀ (e_length_9 : Nat) (e_text_10 : Nat → Int32), o_11 = (e_length_9, e_text_10) → (e_length_9 ≤ 300) → ∀ (H : Heap) (locs : List Loc) (ls : Array Slot), va_P g.1 vwCl [(tA, .inr (4, [.ref rA, .ref dA, .ref cA, .ref eA, .ref mA, .ref jA, .ref tA_images, .ref tA_kept, .ref tA_heats, .ref tA_salts, .ref tA_crumbsOf, .int (nI t_tests), .long t_traced, .int t_dryWeight])), (eA, .inr (2, [.ref eA_text, .int (nI e_length_9), .ref eA_numbers, .int e_token, .int (nI e_place), .int (nI e_next), .int e_value, .int e_skinTold, .int e_bentTold])), (eA_text, .inl (g.2.1 0, 300, .inl e_text_10))] H → va_D A [(tA, .inr (4, [.ref rA, .ref dA, .ref cA, .ref eA, .ref mA, .ref jA, .ref tA_images, .ref tA_kept, .ref tA_heats, .ref tA_salts, .ref tA_crumbsOf, .int (nI t_tests), .long t_traced, .int t_dryWeight])), (eA, .inr (2, [.ref eA_text, .int (nI e_length_9), .ref eA_numbers, .int e_token, .int (nI e_place), .int (nI e_next), .int e_value, .int e_skinTold, .int e_bentTold])), (eA_text, .inl (g.2.1 0, 300, .inl e_text_10))] → va_S A s.heap H locs → lv_has ls 5 [(0, .ref tA)] → W p l e rX4_type s m args below meth c H locs 0 0 Q (F0 m 65 ls []) := by
        intro e_length_9 e_text_10 hE f_11_0 H locs ls hP hD hS hl
        try rw [hE] at E
        refine lv_aload_n hx hb dX4_type_65 rfl (lv_at hl 0 rfl) ?_
        refine va_get (ci := 4) (v := .ref eA) (C := RX4) (T := TX4) (N := 14) hx hb hts inlX4 hown hK.1 hP 0 rfl rfl 3 (by decide) (hts _ kw_22) (fun _ h9 => h9) rfl dX4_type_66 ?_
        refine va_get (ci := 2) (v := .int (nI e_length_9)) (C := RX2) (T := TX2) (N := 9) hx hb hts inlX2 hown hK.1 hP 1 rfl rfl 1 (by decide) (hts _ kw_114) (fun _ h9 => h9) rfl dX4_type_69 ?_
        exact RET (nI e_length_9) (e_length_9, e_text_10) H locs _ _ ⟨E.symm.trans hO, (show e_length_9 ≤ 300 by first | omega | assumption | exact Or.inl rfl | exact Or.inr (by omega))⟩ rfl hP hD hS dX4_type_72
      have E := E_11
      have L_15 : ∀ (n_15 : Nat) (m4_12 : Nat) (e_length_13 : Nat) (e_text_14 : Nat → Int32), (m4_12 ≤ 8) → (e_length_13 + m4_12 ≤ 300) → ((m4_12) < n_15) → o_11 = F_X4_type_L35 a1 n_15 m4_12 e_length_13 e_text_14 → ∀ (H : Heap) (locs : List Loc) (ls : Array Slot), va_P g.1 vwCl [(tA, .inr (4, [.ref rA, .ref dA, .ref cA, .ref eA, .ref mA, .ref jA, .ref tA_images, .ref tA_kept, .ref tA_heats, .ref tA_salts, .ref tA_crumbsOf, .int (nI t_tests), .long t_traced, .int t_dryWeight])), (eA, .inr (2, [.ref eA_text, .int (nI e_length_13), .ref eA_numbers, .int e_token, .int (nI e_place), .int (nI e_next), .int e_value, .int e_skinTold, .int e_bentTold])), (eA_text, .inl (g.2.1 0, 300, .inl e_text_14))] H → va_D A [(tA, .inr (4, [.ref rA, .ref dA, .ref cA, .ref eA, .ref mA, .ref jA, .ref tA_images, .ref tA_kept, .ref tA_heats, .ref tA_salts, .ref tA_crumbsOf, .int (nI t_tests), .long t_traced, .int t_dryWeight])), (eA, .inr (2, [.ref eA_text, .int (nI e_length_13), .ref eA_numbers, .int e_token, .int (nI e_place), .int (nI e_next), .int e_value, .int e_skinTold, .int e_bentTold])), (eA_text, .inl (g.2.1 0, 300, .inl e_text_14))] → va_S A s.heap H locs → lv_has ls 5 [(0, .ref tA), (1, .long a1), (4, .int ((nI m4_12) + (-1)))] → W p l e rX4_type s m args below meth c H locs 0 0 Q (F0 m 35 ls []) := by
        intro n_15
        induction n_15 with
        | zero => intro m4_12 e_length_13 e_text_14 i_15_0 i_15_1 i_15_2; exact absurd i_15_2 (by omega)
        | succ n_15 ih_15 =>
          intro m4_12 e_length_13 e_text_14 i_15_0 i_15_1 i_15_2 E H locs ls hP hD hS hl
          rw [F_X4_type_L35.eq_2] at E
          refine lv_iload hx hb dX4_type_35 (lv_at hl 2 rfl) ?_
          refine x_if_ltP (a := m4_12) (tgt := 65) hx hb (by omega) dX4_type_37 (by decide) (fun c_16 => ?_) (fun c_16 => ?_)
          · have E := x_pos E c_16
            exact J_11 e_length_13 e_text_14 E (by first | omega | assumption | rfl | exact Or.inl rfl | exact Or.inr (by omega)) H locs ls hP hD hS (lv_sub hl [0] rfl)
          · have E := x_neg E c_16
            have hl : lv_has ls 5 [(0, .ref tA), (1, .long a1), (4, .int (nI (m4_12 - 1)))] := by rw [x_pm1 c_16] at hl; exact hl
            refine lv_aload_n hx hb dX4_type_40 rfl (lv_at hl 0 rfl) ?_
            refine va_get (ci := 4) (v := .ref eA) (C := RX4) (T := TX4) (N := 14) hx hb hts inlX4 hown hK.1 hP 0 rfl rfl 3 (by decide) (hts _ kw_22) (fun _ h9 => h9) rfl dX4_type_41 ?_
            refine lv_lload_n hx hb dX4_type_44 rfl (lv_at hl 1 rfl) ?_
            refine lv_bipush (v := 8) hx hb dX4_type_45 (by decide) ?_
            refine lv_iload hx hb dX4_type_47 (lv_at hl 2 rfl) ?_
            refine lv_imul hx hb dX4_type_49 ?_
            refine x_eqi (pk_mul 8 (m4_12 - 1)) ?_
            refine lv_lushr (v := (a1.toUInt64 >>> ((nI (8 * (m4_12 - 1))).toInt64.toUInt64 &&& Int64.toUInt64 63)).toInt64) hx hb dX4_type_50 rfl ?_
            refine lv_l2i (v := ((a1.toUInt64 >>> ((nI (8 * (m4_12 - 1))).toInt64.toUInt64 &&& Int64.toUInt64 63)).toInt64).toInt32) hx hb dX4_type_51 rfl ?_
            refine lv_sipush (v := 255) hx hb dX4_type_52 (by decide) ?_
            refine lv_iand hx hb dX4_type_55 ?_
            refine x_callVv (w2 := fun u => [(tA, .inr (4, [.ref rA, .ref dA, .ref cA, .ref eA, .ref mA, .ref jA, .ref tA_images, .ref tA_kept, .ref tA_heats, .ref tA_salts, .ref tA_crumbsOf, .int (nI t_tests), .long t_traced, .int t_dryWeight])), (eA, .inr (2, [.ref eA_text, .int (nI u.1), .ref eA_numbers, .int e_token, .int (nI e_place), .int (nI e_next), .int e_value, .int e_skinTold, .int e_bentTold])), (eA_text, .inl (g.2.1 0, 300, .inl u.2))]) (wr := [(tA, .inr (4, [.ref rA, .ref dA, .ref cA, .ref eA, .ref mA, .ref jA, .ref tA_images, .ref tA_kept, .ref tA_heats, .ref tA_salts, .ref tA_crumbsOf, .int (nI t_tests), .long t_traced, .int t_dryWeight]))]) [1, 2] [0] [0, 1, 2] 1 2 ⟨hx, hb, hml, hown, hts⟩ hK hX hP hD hS hA (m_X2_append l g eA eA_text eA_numbers e_length_13 e_token e_place e_next e_value e_skinTold e_bentTold e_text_14 ((((a1.toUInt64 >>> ((nI (8 * (m4_12 - 1))).toInt64.toUInt64 &&& Int64.toUInt64 63)).toInt64).toInt32) &&& 255) (by first | assumption | omega | exact x_e8 (by assumption) (by assumption))) (cwV 1 hts (x_gV kw_118 kw_119 kw_120 kw_21 kw_121) rfl rfl rfl vX2_append ⟨Nat.le_of_ble_eq_true rfl, Nat.le_of_ble_eq_true rfl⟩) rfl rfl rfl rfl rfl rfl rfl (by decide) (fun _ => rfl) rfl rfl hl.1 rfl (Nat.le_of_ble_eq_true rfl) dX4_type_56 ⟨Nat.zero_le _, Nat.zero_le _⟩ (fun u H locs hw_19 hP hD hS => ?_)
            obtain ⟨e_length_17, e_text_18⟩ := u
            obtain ⟨hw_19, en_56_0, en_56_1⟩ := hw_19
            have en_56_0 : e_length_17 ≤ 300 := en_56_0
            have en_56_1 : e_length_17 ≤ e_length_13 + 1 := en_56_1
            have hP : va_P g.1 vwCl [(tA, .inr (4, [.ref rA, .ref dA, .ref cA, .ref eA, .ref mA, .ref jA, .ref tA_images, .ref tA_kept, .ref tA_heats, .ref tA_salts, .ref tA_crumbsOf, .int (nI t_tests), .long t_traced, .int t_dryWeight])), (eA, .inr (2, [.ref eA_text, .int (nI e_length_17), .ref eA_numbers, .int e_token, .int (nI e_place), .int (nI e_next), .int e_value, .int e_skinTold, .int e_bentTold])), (eA_text, .inl (g.2.1 0, 300, .inl e_text_18))] H := hP
            have hD : va_D A [(tA, .inr (4, [.ref rA, .ref dA, .ref cA, .ref eA, .ref mA, .ref jA, .ref tA_images, .ref tA_kept, .ref tA_heats, .ref tA_salts, .ref tA_crumbsOf, .int (nI t_tests), .long t_traced, .int t_dryWeight])), (eA, .inr (2, [.ref eA_text, .int (nI e_length_17), .ref eA_numbers, .int e_token, .int (nI e_place), .int (nI e_next), .int e_value, .int e_skinTold, .int e_bentTold])), (eA_text, .inl (g.2.1 0, 300, .inl e_text_18))] := hD
            have E := x_nm_eq E hw_19
            refine lv_iinc (v := (nI (m4_12 - 1)) + (-1)) (lv' := [(4, .int ((nI (m4_12 - 1)) + (-1))), (0, .ref tA), (1, .long a1)]) hx hb dX4_type_59 hl (k := 2) rfl rfl (by decide) rfl (fun ls hl => ?_)
            refine lv_goto (tgt := 35) hx hb dX4_type_62 (by decide) ?_
            exact ih_15 (m4_12 - 1) e_length_17 e_text_18 (by first | omega | assumption | exact Eq.trans (by assumption) (by assumption)) (by first | omega | assumption | exact Eq.trans (by assumption) (by assumption)) (by omega) E H locs ls hP hD hS (lv_sub hl [1, 2, 0] rfl)
      have hl : lv_has ls 5 [(4, .int ((nI ((j_7 - 1) + 1)) + (-1))), (0, .ref tA), (1, .long a1), (3, .int (nI j_7))] := by rw [pk_m1]; exact hl
      exact L_15 9 ((j_7 - 1) + 1) e_length e_text (by first | omega | assumption | rfl) (by first | omega | assumption | rfl) (by omega) E H locs ls hP hD hS (lv_sub hl [1, 2, 0] rfl)
    · have E := x_neg E c_8
      refine lv_bipush (v := (-3)) hx hb dX4_type_27 (by decide) ?_
      exact RET (-3) (e_length, e_text) H locs _ _ ⟨E.symm.trans hO, (show e_length ≤ 300 by first | omega | assumption | exact Or.inl rfl | exact Or.inr (by omega))⟩ rfl hP hD hS dX4_type_29
  · have E := x_neg E c_5
    refine lv_iconst (v := (-1)) hx hb dX4_type_10 (by decide) ?_
    exact RET (-1) (e_length, e_text) H locs _ _ ⟨E.symm.trans hO, (show e_length ≤ 300 by first | omega | assumption | exact Or.inl rfl | exact Or.inr (by omega))⟩ rfl hP hD hS dX4_type_11
abbrev rX4_clear : Room := { frames := 0, cells := 0, slots := 0, locals := 0 }
theorem vX4_clear : yX4_clear.cls = RX4 ∧ yX4_clear.cls ≠ "java/lang/invoke/MethodHandle" ∧ yX4_clear.cls ≠ "java/lang/invoke/VarHandle" ∧ (parseMethodDescriptor yX4_clear.desc).map (fun d => d.parameters.length) = some 0 := by decide +kernel
abbrev wX4_clear : List Cond := Cond.code yX4_clear cX4_clear 2 (some .int) :: wsL_law
def F_X4_clear (e_length : Nat) : Int32 × Nat :=
  (nI e_length, 0)
set_option maxHeartbeats 4000000 in
set_option maxRecDepth 100000 in
theorem m_X4_clear (l : Launch) (g : x_G) (tA eA rA dA cA mA jA tA_images tA_kept tA_heats tA_salts tA_crumbsOf eA_text eA_numbers : Nat) (t_tests : Nat) (t_traced : Int64) (t_dryWeight : Int32) (e_length : Nat) (e_token : Int32) (e_place : Nat) (e_next : Nat) (e_value : Int32) (e_skinTold : Int32) (e_bentTold : Int32) : x_MetI l yX4_clear wX4_clear rX4_clear g [.ref tA] [(tA, .inr (4, [.ref rA, .ref dA, .ref cA, .ref eA, .ref mA, .ref jA, .ref tA_images, .ref tA_kept, .ref tA_heats, .ref tA_salts, .ref tA_crumbsOf, .int (nI t_tests), .long t_traced, .int t_dryWeight])), (eA, .inr (2, [.ref eA_text, .int (nI e_length), .ref eA_numbers, .int e_token, .int (nI e_place), .int (nI e_next), .int e_value, .int e_skinTold, .int e_bentTold]))] (fun (r : Int32) (u : Nat) => (r, u) = F_X4_clear e_length) (fun u => [(tA, .inr (4, [.ref rA, .ref dA, .ref cA, .ref eA, .ref mA, .ref jA, .ref tA_images, .ref tA_kept, .ref tA_heats, .ref tA_salts, .ref tA_crumbsOf, .int (nI t_tests), .long t_traced, .int t_dryWeight])), (eA, .inr (2, [.ref eA_text, .int (nI u), .ref eA_numbers, .int e_token, .int (nI e_place), .int (nI e_next), .int e_value, .int e_skinTold, .int e_bentTold]))]) := by
  refine x_startI (cc := cX4_clear) (maxL := 2) (by decide) rfl (Nat.le_of_ble_eq_true rfl) ?_
  intro p e s m args below meth c Q A ls H locs hx hb hml hown hts hK hX hP hD hS hA hl RET
  have hown : s.vm.findClass RX4 = some m.cls := hown
  have hl : lv_has ls 2 [(0, .ref tA)] := hl
  obtain ⟨o_0, hO⟩ : ∃ z, z = F_X4_clear e_length := ⟨_, rfl⟩
  have E := hO
  rw [F_X4_clear.eq_1] at E
  refine lv_aload_n hx hb dX4_clear_0 rfl (lv_at hl 0 rfl) ?_
  refine va_get (ci := 4) (v := .ref eA) (C := RX4) (T := TX4) (N := 14) hx hb hts inlX4 hown hK.1 hP 0 rfl rfl 3 (by decide) (hts _ kw_22) (fun _ h9 => h9) rfl dX4_clear_1 ?_
  refine va_get (ci := 2) (v := .int (nI e_length)) (C := RX2) (T := TX2) (N := 9) hx hb hts inlX2 hown hK.1 hP 1 rfl rfl 1 (by decide) (hts _ kw_114) (fun _ h9 => h9) rfl dX4_clear_4 ?_
  refine lv_istore_n (lv' := [(1, .int (nI e_length)), (0, .ref tA)]) hx hb dX4_clear_7 rfl hl (by decide) rfl (fun ls hl => ?_)
  refine lv_aload_n hx hb dX4_clear_8 rfl (lv_at hl 1 rfl) ?_
  refine va_get (ci := 4) (v := .ref eA) (C := RX4) (T := TX4) (N := 14) hx hb hts inlX4 hown hK.1 hP 0 rfl rfl 3 (by decide) (hts _ kw_22) (fun _ h9 => h9) rfl dX4_clear_9 ?_
  refine lv_iconst (v := 0) hx hb dX4_clear_12 (by decide) ?_
  refine va_put (ci := 2) (v := .int 0) (ty := .int) (C := RX2) (T := TX2) (N := 9) hx hb hts inlX2 tyX2 tyX2_ok nmX2 hown hK.1 hP hD hS 1 rfl rfl 1 (by decide) (hts _ kw_114) (fun _ h9 => h9) rfl (tyX2_ok 1 (by decide)) rfl rfl (Nat.le_of_ble_eq_true rfl) dX4_clear_13 (fun H locs hP hD hS => ?_)
  have hP : va_P g.1 vwCl [(tA, .inr (4, [.ref rA, .ref dA, .ref cA, .ref eA, .ref mA, .ref jA, .ref tA_images, .ref tA_kept, .ref tA_heats, .ref tA_salts, .ref tA_crumbsOf, .int (nI t_tests), .long t_traced, .int t_dryWeight])), (eA, .inr (2, [.ref eA_text, .int 0, .ref eA_numbers, .int e_token, .int (nI e_place), .int (nI e_next), .int e_value, .int e_skinTold, .int e_bentTold]))] H := hP
  have hD : va_D A [(tA, .inr (4, [.ref rA, .ref dA, .ref cA, .ref eA, .ref mA, .ref jA, .ref tA_images, .ref tA_kept, .ref tA_heats, .ref tA_salts, .ref tA_crumbsOf, .int (nI t_tests), .long t_traced, .int t_dryWeight])), (eA, .inr (2, [.ref eA_text, .int 0, .ref eA_numbers, .int e_token, .int (nI e_place), .int (nI e_next), .int e_value, .int e_skinTold, .int e_bentTold]))] := hD
  refine lv_iload_n hx hb dX4_clear_16 rfl (lv_at hl 0 rfl) ?_
  exact RET (nI e_length) 0 H locs _ _ (E.symm.trans hO) rfl hP hD hS dX4_clear_17
abbrev rX4_told : Room := { frames := 1, cells := 0, slots := 0, locals := 22 }
theorem vX4_told : yX4_told.cls = RX4 ∧ yX4_told.cls ≠ "java/lang/invoke/MethodHandle" ∧ yX4_told.cls ≠ "java/lang/invoke/VarHandle" ∧ (parseMethodDescriptor yX4_told.desc).map (fun d => d.parameters.length) = some 1 := by decide +kernel
abbrev wX4_told : List Cond := Cond.code yX4_told cX4_told 2 (some .int) :: wsL_law
def F_X4_told (r_radius : Int32) (r_skin : Int32) (r_filling : Int32) (r_water : Int32) (r_ends : Int32) (r_thin : Int32) (r_chance : Int32) (r_bentFace : Int32) (r_bentBy : Int32) (r_doings : Nat) (r_seconds : Nat → Int32) (a1 : Int32) : Int32 :=
  if a1 = 0 then r_radius else if a1 = 1 then r_skin else if a1 = 2 then r_filling else if a1 = 3 then r_water else if a1 = 4 then r_ends else if a1 = 5 then r_thin else if a1 = 6 then r_chance else if a1 = 7 then r_bentFace else if a1 = 8 then r_bentBy else if a1 = 9 then nI r_doings else if a1 = 10 then x_nm (F_X3_planSeconds r_doings r_seconds) fun z_12 => z_12 else (-1)
set_option maxHeartbeats 4000000 in
set_option maxRecDepth 100000 in
theorem m_X4_told (l : Launch) (g : x_G) (tA rA rA_seconds dA cA eA mA jA tA_images tA_kept tA_heats tA_salts tA_crumbsOf rA_kinds rA_firsts : Nat) (t_tests : Nat) (t_traced : Int64) (t_dryWeight : Int32) (r_radius : Int32) (r_skin : Int32) (r_filling : Int32) (r_water : Int32) (r_ends : Int32) (r_thin : Int32) (r_chance : Int32) (r_bentFace : Int32) (r_bentBy : Int32) (r_doings : Nat) (r_seconds : Nat → Int32) (a1 : Int32) (h_0 : r_doings ≤ 12) : x_MetI l yX4_told wX4_told rX4_told g [.ref tA, .int a1] [(tA, .inr (4, [.ref rA, .ref dA, .ref cA, .ref eA, .ref mA, .ref jA, .ref tA_images, .ref tA_kept, .ref tA_heats, .ref tA_salts, .ref tA_crumbsOf, .int (nI t_tests), .long t_traced, .int t_dryWeight])), (rA, .inr (3, [.int r_radius, .int r_skin, .int r_filling, .int r_water, .int r_ends, .int r_thin, .int r_chance, .int r_bentFace, .int r_bentBy, .int (nI r_doings), .ref rA_kinds, .ref rA_firsts, .ref rA_seconds])), (rA_seconds, .inl (g.2.1 0, 12, .inl r_seconds))] (fun (r : Int32) (u : Unit) => r = F_X4_told r_radius r_skin r_filling r_water r_ends r_thin r_chance r_bentFace r_bentBy r_doings r_seconds a1) (fun _ => [(tA, .inr (4, [.ref rA, .ref dA, .ref cA, .ref eA, .ref mA, .ref jA, .ref tA_images, .ref tA_kept, .ref tA_heats, .ref tA_salts, .ref tA_crumbsOf, .int (nI t_tests), .long t_traced, .int t_dryWeight])), (rA, .inr (3, [.int r_radius, .int r_skin, .int r_filling, .int r_water, .int r_ends, .int r_thin, .int r_chance, .int r_bentFace, .int r_bentBy, .int (nI r_doings), .ref rA_kinds, .ref rA_firsts, .ref rA_seconds])), (rA_seconds, .inl (g.2.1 0, 12, .inl r_seconds))]) := by
  refine x_startI (cc := cX4_told) (maxL := 2) (by decide) rfl (Nat.le_of_ble_eq_true rfl) ?_
  intro p e s m args below meth c Q A ls H locs hx hb hml hown hts hK hX hP hD hS hA hl RET
  have hown : s.vm.findClass RX4 = some m.cls := hown
  have hl : lv_has ls 2 [(0, .ref tA), (1, .int a1)] := hl
  obtain ⟨o_0, hO⟩ : ∃ z, z = F_X4_told r_radius r_skin r_filling r_water r_ends r_thin r_chance r_bentFace r_bentBy r_doings r_seconds a1 := ⟨_, rfl⟩
  have E := hO
  rw [F_X4_told.eq_1] at E
  refine lv_iload_n hx hb dX4_told_0 rfl (lv_at hl 1 rfl) ?_
  by_cases c_1 : a1 = 0
  · have E := x_pos E c_1
    refine lv_tableIn (off := 59) (tgt := 60) hx hb dX4_told_1 (by rw [c_1]; decide) (by rw [c_1]; decide) (by rw [c_1]; decide) (by decide) ?_
    refine lv_aload_n hx hb dX4_told_60 rfl (lv_at hl 0 rfl) ?_
    refine va_get (ci := 4) (v := .ref rA) (C := RX4) (T := TX4) (N := 14) hx hb hts inlX4 hown hK.1 hP 0 rfl rfl 0 (by decide) (hts _ kw_16) (fun _ h9 => h9) rfl dX4_told_61 ?_
    refine va_get (ci := 3) (v := .int r_radius) (C := RX3) (T := TX3) (N := 13) hx hb hts inlX3 hown hK.1 hP 1 rfl rfl 0 (by decide) (hts _ kw_342) (fun _ h9 => h9) rfl dX4_told_64 ?_
    exact RET r_radius () H locs _ _ (E.symm.trans hO) rfl hP hD hS dX4_told_67
  have E := x_neg E c_1
  by_cases c_2 : a1 = 1
  · have E := x_pos E c_2
    refine lv_tableIn (off := 67) (tgt := 68) hx hb dX4_told_1 (by rw [c_2]; decide) (by rw [c_2]; decide) (by rw [c_2]; decide) (by decide) ?_
    refine lv_aload_n hx hb dX4_told_68 rfl (lv_at hl 0 rfl) ?_
    refine va_get (ci := 4) (v := .ref rA) (C := RX4) (T := TX4) (N := 14) hx hb hts inlX4 hown hK.1 hP 0 rfl rfl 0 (by decide) (hts _ kw_16) (fun _ h9 => h9) rfl dX4_told_69 ?_
    refine va_get (ci := 3) (v := .int r_skin) (C := RX3) (T := TX3) (N := 13) hx hb hts inlX3 hown hK.1 hP 1 rfl rfl 1 (by decide) (hts _ kw_343) (fun _ h9 => h9) rfl dX4_told_72 ?_
    exact RET r_skin () H locs _ _ (E.symm.trans hO) rfl hP hD hS dX4_told_75
  have E := x_neg E c_2
  by_cases c_3 : a1 = 2
  · have E := x_pos E c_3
    refine lv_tableIn (off := 75) (tgt := 76) hx hb dX4_told_1 (by rw [c_3]; decide) (by rw [c_3]; decide) (by rw [c_3]; decide) (by decide) ?_
    refine lv_aload_n hx hb dX4_told_76 rfl (lv_at hl 0 rfl) ?_
    refine va_get (ci := 4) (v := .ref rA) (C := RX4) (T := TX4) (N := 14) hx hb hts inlX4 hown hK.1 hP 0 rfl rfl 0 (by decide) (hts _ kw_16) (fun _ h9 => h9) rfl dX4_told_77 ?_
    refine va_get (ci := 3) (v := .int r_filling) (C := RX3) (T := TX3) (N := 13) hx hb hts inlX3 hown hK.1 hP 1 rfl rfl 2 (by decide) (hts _ kw_344) (fun _ h9 => h9) rfl dX4_told_80 ?_
    exact RET r_filling () H locs _ _ (E.symm.trans hO) rfl hP hD hS dX4_told_83
  have E := x_neg E c_3
  by_cases c_4 : a1 = 3
  · have E := x_pos E c_4
    refine lv_tableIn (off := 83) (tgt := 84) hx hb dX4_told_1 (by rw [c_4]; decide) (by rw [c_4]; decide) (by rw [c_4]; decide) (by decide) ?_
    refine lv_aload_n hx hb dX4_told_84 rfl (lv_at hl 0 rfl) ?_
    refine va_get (ci := 4) (v := .ref rA) (C := RX4) (T := TX4) (N := 14) hx hb hts inlX4 hown hK.1 hP 0 rfl rfl 0 (by decide) (hts _ kw_16) (fun _ h9 => h9) rfl dX4_told_85 ?_
    refine va_get (ci := 3) (v := .int r_water) (C := RX3) (T := TX3) (N := 13) hx hb hts inlX3 hown hK.1 hP 1 rfl rfl 3 (by decide) (hts _ kw_38) (fun _ h9 => h9) rfl dX4_told_88 ?_
    exact RET r_water () H locs _ _ (E.symm.trans hO) rfl hP hD hS dX4_told_91
  have E := x_neg E c_4
  by_cases c_5 : a1 = 4
  · have E := x_pos E c_5
    refine lv_tableIn (off := 91) (tgt := 92) hx hb dX4_told_1 (by rw [c_5]; decide) (by rw [c_5]; decide) (by rw [c_5]; decide) (by decide) ?_
    refine lv_aload_n hx hb dX4_told_92 rfl (lv_at hl 0 rfl) ?_
    refine va_get (ci := 4) (v := .ref rA) (C := RX4) (T := TX4) (N := 14) hx hb hts inlX4 hown hK.1 hP 0 rfl rfl 0 (by decide) (hts _ kw_16) (fun _ h9 => h9) rfl dX4_told_93 ?_
    refine va_get (ci := 3) (v := .int r_ends) (C := RX3) (T := TX3) (N := 13) hx hb hts inlX3 hown hK.1 hP 1 rfl rfl 4 (by decide) (hts _ kw_345) (fun _ h9 => h9) rfl dX4_told_96 ?_
    exact RET r_ends () H locs _ _ (E.symm.trans hO) rfl hP hD hS dX4_told_99
  have E := x_neg E c_5
  by_cases c_6 : a1 = 5
  · have E := x_pos E c_6
    refine lv_tableIn (off := 99) (tgt := 100) hx hb dX4_told_1 (by rw [c_6]; decide) (by rw [c_6]; decide) (by rw [c_6]; decide) (by decide) ?_
    refine lv_aload_n hx hb dX4_told_100 rfl (lv_at hl 0 rfl) ?_
    refine va_get (ci := 4) (v := .ref rA) (C := RX4) (T := TX4) (N := 14) hx hb hts inlX4 hown hK.1 hP 0 rfl rfl 0 (by decide) (hts _ kw_16) (fun _ h9 => h9) rfl dX4_told_101 ?_
    refine va_get (ci := 3) (v := .int r_thin) (C := RX3) (T := TX3) (N := 13) hx hb hts inlX3 hown hK.1 hP 1 rfl rfl 5 (by decide) (hts _ kw_346) (fun _ h9 => h9) rfl dX4_told_104 ?_
    exact RET r_thin () H locs _ _ (E.symm.trans hO) rfl hP hD hS dX4_told_107
  have E := x_neg E c_6
  by_cases c_7 : a1 = 6
  · have E := x_pos E c_7
    refine lv_tableIn (off := 107) (tgt := 108) hx hb dX4_told_1 (by rw [c_7]; decide) (by rw [c_7]; decide) (by rw [c_7]; decide) (by decide) ?_
    refine lv_aload_n hx hb dX4_told_108 rfl (lv_at hl 0 rfl) ?_
    refine va_get (ci := 4) (v := .ref rA) (C := RX4) (T := TX4) (N := 14) hx hb hts inlX4 hown hK.1 hP 0 rfl rfl 0 (by decide) (hts _ kw_16) (fun _ h9 => h9) rfl dX4_told_109 ?_
    refine va_get (ci := 3) (v := .int r_chance) (C := RX3) (T := TX3) (N := 13) hx hb hts inlX3 hown hK.1 hP 1 rfl rfl 6 (by decide) (hts _ kw_347) (fun _ h9 => h9) rfl dX4_told_112 ?_
    exact RET r_chance () H locs _ _ (E.symm.trans hO) rfl hP hD hS dX4_told_115
  have E := x_neg E c_7
  by_cases c_8 : a1 = 7
  · have E := x_pos E c_8
    refine lv_tableIn (off := 115) (tgt := 116) hx hb dX4_told_1 (by rw [c_8]; decide) (by rw [c_8]; decide) (by rw [c_8]; decide) (by decide) ?_
    refine lv_aload_n hx hb dX4_told_116 rfl (lv_at hl 0 rfl) ?_
    refine va_get (ci := 4) (v := .ref rA) (C := RX4) (T := TX4) (N := 14) hx hb hts inlX4 hown hK.1 hP 0 rfl rfl 0 (by decide) (hts _ kw_16) (fun _ h9 => h9) rfl dX4_told_117 ?_
    refine va_get (ci := 3) (v := .int r_bentFace) (C := RX3) (T := TX3) (N := 13) hx hb hts inlX3 hown hK.1 hP 1 rfl rfl 7 (by decide) (hts _ kw_348) (fun _ h9 => h9) rfl dX4_told_120 ?_
    exact RET r_bentFace () H locs _ _ (E.symm.trans hO) rfl hP hD hS dX4_told_123
  have E := x_neg E c_8
  by_cases c_9 : a1 = 8
  · have E := x_pos E c_9
    refine lv_tableIn (off := 123) (tgt := 124) hx hb dX4_told_1 (by rw [c_9]; decide) (by rw [c_9]; decide) (by rw [c_9]; decide) (by decide) ?_
    refine lv_aload_n hx hb dX4_told_124 rfl (lv_at hl 0 rfl) ?_
    refine va_get (ci := 4) (v := .ref rA) (C := RX4) (T := TX4) (N := 14) hx hb hts inlX4 hown hK.1 hP 0 rfl rfl 0 (by decide) (hts _ kw_16) (fun _ h9 => h9) rfl dX4_told_125 ?_
    refine va_get (ci := 3) (v := .int r_bentBy) (C := RX3) (T := TX3) (N := 13) hx hb hts inlX3 hown hK.1 hP 1 rfl rfl 8 (by decide) (hts _ kw_349) (fun _ h9 => h9) rfl dX4_told_128 ?_
    exact RET r_bentBy () H locs _ _ (E.symm.trans hO) rfl hP hD hS dX4_told_131
  have E := x_neg E c_9
  by_cases c_10 : a1 = 9
  · have E := x_pos E c_10
    refine lv_tableIn (off := 131) (tgt := 132) hx hb dX4_told_1 (by rw [c_10]; decide) (by rw [c_10]; decide) (by rw [c_10]; decide) (by decide) ?_
    refine lv_aload_n hx hb dX4_told_132 rfl (lv_at hl 0 rfl) ?_
    refine va_get (ci := 4) (v := .ref rA) (C := RX4) (T := TX4) (N := 14) hx hb hts inlX4 hown hK.1 hP 0 rfl rfl 0 (by decide) (hts _ kw_16) (fun _ h9 => h9) rfl dX4_told_133 ?_
    refine va_get (ci := 3) (v := .int (nI r_doings)) (C := RX3) (T := TX3) (N := 13) hx hb hts inlX3 hown hK.1 hP 1 rfl rfl 9 (by decide) (hts _ kw_350) (fun _ h9 => h9) rfl dX4_told_136 ?_
    exact RET (nI r_doings) () H locs _ _ (E.symm.trans hO) rfl hP hD hS dX4_told_139
  have E := x_neg E c_10
  by_cases c_11 : a1 = 10
  · have E := x_pos E c_11
    refine lv_tableIn (off := 139) (tgt := 140) hx hb dX4_told_1 (by rw [c_11]; decide) (by rw [c_11]; decide) (by rw [c_11]; decide) (by decide) ?_
    refine lv_aload_n hx hb dX4_told_140 rfl (lv_at hl 0 rfl) ?_
    refine va_get (ci := 4) (v := .ref rA) (C := RX4) (T := TX4) (N := 14) hx hb hts inlX4 hown hK.1 hP 0 rfl rfl 0 (by decide) (hts _ kw_16) (fun _ h9 => h9) rfl dX4_told_141 ?_
    refine x_callVi (w2 := fun u => [(tA, .inr (4, [.ref rA, .ref dA, .ref cA, .ref eA, .ref mA, .ref jA, .ref tA_images, .ref tA_kept, .ref tA_heats, .ref tA_salts, .ref tA_crumbsOf, .int (nI t_tests), .long t_traced, .int t_dryWeight])), (rA, .inr (3, [.int r_radius, .int r_skin, .int r_filling, .int r_water, .int r_ends, .int r_thin, .int r_chance, .int r_bentFace, .int r_bentBy, .int (nI r_doings), .ref rA_kinds, .ref rA_firsts, .ref rA_seconds])), (rA_seconds, .inl (g.2.1 0, 12, .inl r_seconds))]) (wr := [(tA, .inr (4, [.ref rA, .ref dA, .ref cA, .ref eA, .ref mA, .ref jA, .ref tA_images, .ref tA_kept, .ref tA_heats, .ref tA_salts, .ref tA_crumbsOf, .int (nI t_tests), .long t_traced, .int t_dryWeight]))]) [1, 2] [0] [0, 1, 2] 1 3 ⟨hx, hb, hml, hown, hts⟩ hK hX hP hD hS hA (m_X3_planSeconds l g rA rA_seconds rA_kinds rA_firsts r_radius r_skin r_filling r_water r_ends r_thin r_chance r_bentFace r_bentBy r_doings r_seconds (by first | assumption | omega | exact x_e8 (by assumption) (by assumption))) (cwV 0 hts (x_gV kw_351 kw_352 kw_353 kw_15 kw_354) rfl rfl rfl vX3_planSeconds ⟨Nat.le_of_ble_eq_true rfl, Nat.le_of_ble_eq_true rfl⟩) rfl rfl rfl rfl rfl rfl rfl (by decide) (fun _ => rfl) rfl rfl hl.1 rfl (Nat.le_of_ble_eq_true rfl) dX4_told_144 ⟨Nat.zero_le _, Nat.zero_le _⟩ (fun z_12 _ H locs hw_13 hP hD hS => ?_)
    have E := x_nm_eq E hw_13
    exact RET z_12 () H locs _ _ (E.symm.trans hO) rfl hP hD hS dX4_told_147
  have E := x_neg E c_11
  refine lv_tableOut (tgt := 148) hx hb dX4_told_1 (x_out 11 (by decide) (fun k hk => by rcases (show k = 0 ∨ k = 1 ∨ k = 2 ∨ k = 3 ∨ k = 4 ∨ k = 5 ∨ k = 6 ∨ k = 7 ∨ k = 8 ∨ k = 9 ∨ k = 10 by omega) with rfl | rfl | rfl | rfl | rfl | rfl | rfl | rfl | rfl | rfl | rfl <;> assumption) (by decide)) (by decide) ?_
  refine lv_iconst (v := (-1)) hx hb dX4_told_148 (by decide) ?_
  exact RET (-1) () H locs _ _ (E.symm.trans hO) rfl hP hD hS dX4_told_149
abbrev rX4_doing : Room := { frames := 1, cells := 0, slots := 0, locals := 22 }
theorem vX4_doing : yX4_doing.cls = RX4 ∧ yX4_doing.cls ≠ "java/lang/invoke/MethodHandle" ∧ yX4_doing.cls ≠ "java/lang/invoke/VarHandle" ∧ (parseMethodDescriptor yX4_doing.desc).map (fun d => d.parameters.length) = some 2 := by decide +kernel
abbrev wX4_doing : List Cond := Cond.code yX4_doing cX4_doing 3 (some .int) :: wsL_law
def F_X4_doing (r_doings : Nat) (r_kinds : Nat → Int32) (r_firsts : Nat → Int32) (r_seconds : Nat → Int32) (a1 : Int32) (a2 : Int32) : Int32 :=
  x_nm (F_X4_outside a1 0 ((nI r_doings) - 1)) fun z_1 => if z_1 = 0 then x_nm (a1.toNatClampNeg) fun j_7 => if a2 = 0 then r_kinds j_7 else if a2 = 1 then r_firsts j_7 else if a2 = 2 then r_seconds j_7 else (-1) else (-1)
set_option maxHeartbeats 4000000 in
set_option maxRecDepth 100000 in
theorem m_X4_doing (l : Launch) (g : x_G) (tA rA rA_kinds rA_firsts rA_seconds dA cA eA mA jA tA_images tA_kept tA_heats tA_salts tA_crumbsOf : Nat) (t_tests : Nat) (t_traced : Int64) (t_dryWeight : Int32) (r_radius : Int32) (r_skin : Int32) (r_filling : Int32) (r_water : Int32) (r_ends : Int32) (r_thin : Int32) (r_chance : Int32) (r_bentFace : Int32) (r_bentBy : Int32) (r_doings : Nat) (r_kinds : Nat → Int32) (r_firsts : Nat → Int32) (r_seconds : Nat → Int32) (a1 : Int32) (a2 : Int32) (h_0 : r_doings ≤ 12) : x_MetI l yX4_doing wX4_doing rX4_doing g [.ref tA, .int a1, .int a2] [(tA, .inr (4, [.ref rA, .ref dA, .ref cA, .ref eA, .ref mA, .ref jA, .ref tA_images, .ref tA_kept, .ref tA_heats, .ref tA_salts, .ref tA_crumbsOf, .int (nI t_tests), .long t_traced, .int t_dryWeight])), (rA, .inr (3, [.int r_radius, .int r_skin, .int r_filling, .int r_water, .int r_ends, .int r_thin, .int r_chance, .int r_bentFace, .int r_bentBy, .int (nI r_doings), .ref rA_kinds, .ref rA_firsts, .ref rA_seconds])), (rA_kinds, .inl (g.2.1 0, 12, .inl r_kinds)), (rA_firsts, .inl (g.2.1 0, 12, .inl r_firsts)), (rA_seconds, .inl (g.2.1 0, 12, .inl r_seconds))] (fun (r : Int32) (u : Unit) => r = F_X4_doing r_doings r_kinds r_firsts r_seconds a1 a2) (fun _ => [(tA, .inr (4, [.ref rA, .ref dA, .ref cA, .ref eA, .ref mA, .ref jA, .ref tA_images, .ref tA_kept, .ref tA_heats, .ref tA_salts, .ref tA_crumbsOf, .int (nI t_tests), .long t_traced, .int t_dryWeight])), (rA, .inr (3, [.int r_radius, .int r_skin, .int r_filling, .int r_water, .int r_ends, .int r_thin, .int r_chance, .int r_bentFace, .int r_bentBy, .int (nI r_doings), .ref rA_kinds, .ref rA_firsts, .ref rA_seconds])), (rA_kinds, .inl (g.2.1 0, 12, .inl r_kinds)), (rA_firsts, .inl (g.2.1 0, 12, .inl r_firsts)), (rA_seconds, .inl (g.2.1 0, 12, .inl r_seconds))]) := by
  refine x_startI (cc := cX4_doing) (maxL := 3) (by decide) rfl (Nat.le_of_ble_eq_true rfl) ?_
  intro p e s m args below meth c Q A ls H locs hx hb hml hown hts hK hX hP hD hS hA hl RET
  have hown : s.vm.findClass RX4 = some m.cls := hown
  have hl : lv_has ls 3 [(0, .ref tA), (1, .int a1), (2, .int a2)] := hl
  obtain ⟨o_0, hO⟩ : ∃ z, z = F_X4_doing r_doings r_kinds r_firsts r_seconds a1 a2 := ⟨_, rfl⟩
  have E := hO
  rw [F_X4_doing.eq_1] at E
  refine lv_iload_n hx hb dX4_doing_0 rfl (lv_at hl 1 rfl) ?_
  refine lv_iconst (v := 0) hx hb dX4_doing_1 (by decide) ?_
  refine lv_aload_n hx hb dX4_doing_2 rfl (lv_at hl 0 rfl) ?_
  refine va_get (ci := 4) (v := .ref rA) (C := RX4) (T := TX4) (N := 14) hx hb hts inlX4 hown hK.1 hP 0 rfl rfl 0 (by decide) (hts _ kw_16) (fun _ h9 => h9) rfl dX4_doing_3 ?_
  refine va_get (ci := 3) (v := .int (nI r_doings)) (C := RX3) (T := TX3) (N := 13) hx hb hts inlX3 hown hK.1 hP 1 rfl rfl 9 (by decide) (hts _ kw_350) (fun _ h9 => h9) rfl dX4_doing_6 ?_
  refine lv_iconst (v := 1) hx hb dX4_doing_9 (by decide) ?_
  refine lv_isub hx hb dX4_doing_10 ?_
  refine x_callS0 ⟨hx, hb, hml, hown, hts⟩ hK hX hP hD hS hA (m_X4_outside l g a1 0 ((nI r_doings) - 1)) (va_cwS 3 hts (x_gS kw_115 kw_116 kw_2 kw_117) rfl rfl rfl vX4_outsideS ⟨Nat.le_of_ble_eq_true rfl, Nat.le_of_ble_eq_true rfl⟩) rfl hl.1 rfl (Nat.le_of_ble_eq_true rfl) dX4_doing_11 ⟨Nat.zero_le _, Nat.zero_le _⟩ (fun z_1 _ H locs hw_2 hP hD hS => ?_)
  obtain ⟨hw_2, b_3⟩ := hw_2
  have E := x_nm_eq E hw_2
  refine lv_if_eq (tgt := 19) hx hb dX4_doing_14 (by decide) (fun c_5 => ?_) (fun c_5 => ?_)
  · have E := x_pos E c_5
    obtain ⟨j_7, hj⟩ : ∃ z, z = (a1).toNatClampNeg := ⟨_, rfl⟩
    have r_6_0 := (x_outsM (d := r_doings) (by omega) (hw_2.symm.trans c_5))
    rw [← hj] at r_6_0
    obtain ⟨r_6_0_a, r_6_0_b, e_6_0⟩ := r_6_0
    have E := x_nm_eq E hj
    have hl : lv_has ls 3 [(0, .ref tA), (1, .int (nI j_7)), (2, .int a2)] := by rw [e_6_0] at hl; exact hl
    refine lv_iload_n hx hb dX4_doing_19 rfl (lv_at hl 2 rfl) ?_
    by_cases c_8 : a2 = 0
    · have E := x_pos E c_8
      refine lv_tableIn (off := 28) (tgt := 48) hx hb dX4_doing_20 (by rw [c_8]; decide) (by rw [c_8]; decide) (by rw [c_8]; decide) (by decide) ?_
      refine lv_aload_n hx hb dX4_doing_48 rfl (lv_at hl 0 rfl) ?_
      refine va_get (ci := 4) (v := .ref rA) (C := RX4) (T := TX4) (N := 14) hx hb hts inlX4 hown hK.1 hP 0 rfl rfl 0 (by decide) (hts _ kw_16) (fun _ h9 => h9) rfl dX4_doing_49 ?_
      refine va_get (ci := 3) (v := .ref rA_kinds) (C := RX3) (T := TX3) (N := 13) hx hb hts inlX3 hown hK.1 hP 1 rfl rfl 10 (by decide) (hts _ kw_368) (fun _ h9 => h9) rfl dX4_doing_52 ?_
      refine lv_iload_n hx hb dX4_doing_55 rfl (lv_at hl 1 rfl) ?_
      refine x_ialdN hx hb hK hP 2 j_7 rfl (by omega) (by decide) dX4_doing_56 ?_
      exact RET (r_kinds j_7) () H locs _ _ (E.symm.trans hO) rfl hP hD hS dX4_doing_57
    have E := x_neg E c_8
    by_cases c_9 : a2 = 1
    · have E := x_pos E c_9
      refine lv_tableIn (off := 38) (tgt := 58) hx hb dX4_doing_20 (by rw [c_9]; decide) (by rw [c_9]; decide) (by rw [c_9]; decide) (by decide) ?_
      refine lv_aload_n hx hb dX4_doing_58 rfl (lv_at hl 0 rfl) ?_
      refine va_get (ci := 4) (v := .ref rA) (C := RX4) (T := TX4) (N := 14) hx hb hts inlX4 hown hK.1 hP 0 rfl rfl 0 (by decide) (hts _ kw_16) (fun _ h9 => h9) rfl dX4_doing_59 ?_
      refine va_get (ci := 3) (v := .ref rA_firsts) (C := RX3) (T := TX3) (N := 13) hx hb hts inlX3 hown hK.1 hP 1 rfl rfl 11 (by decide) (hts _ kw_369) (fun _ h9 => h9) rfl dX4_doing_62 ?_
      refine lv_iload_n hx hb dX4_doing_65 rfl (lv_at hl 1 rfl) ?_
      refine x_ialdN hx hb hK hP 3 j_7 rfl (by omega) (by decide) dX4_doing_66 ?_
      exact RET (r_firsts j_7) () H locs _ _ (E.symm.trans hO) rfl hP hD hS dX4_doing_67
    have E := x_neg E c_9
    by_cases c_10 : a2 = 2
    · have E := x_pos E c_10
      refine lv_tableIn (off := 48) (tgt := 68) hx hb dX4_doing_20 (by rw [c_10]; decide) (by rw [c_10]; decide) (by rw [c_10]; decide) (by decide) ?_
      refine lv_aload_n hx hb dX4_doing_68 rfl (lv_at hl 0 rfl) ?_
      refine va_get (ci := 4) (v := .ref rA) (C := RX4) (T := TX4) (N := 14) hx hb hts inlX4 hown hK.1 hP 0 rfl rfl 0 (by decide) (hts _ kw_16) (fun _ h9 => h9) rfl dX4_doing_69 ?_
      refine va_get (ci := 3) (v := .ref rA_seconds) (C := RX3) (T := TX3) (N := 13) hx hb hts inlX3 hown hK.1 hP 1 rfl rfl 12 (by decide) (hts _ kw_370) (fun _ h9 => h9) rfl dX4_doing_72 ?_
      refine lv_iload_n hx hb dX4_doing_75 rfl (lv_at hl 1 rfl) ?_
      refine x_ialdN hx hb hK hP 4 j_7 rfl (by omega) (by decide) dX4_doing_76 ?_
      exact RET (r_seconds j_7) () H locs _ _ (E.symm.trans hO) rfl hP hD hS dX4_doing_77
    have E := x_neg E c_10
    refine lv_tableOut (tgt := 78) hx hb dX4_doing_20 (x_out 3 (by decide) (fun k hk => by rcases (show k = 0 ∨ k = 1 ∨ k = 2 by omega) with rfl | rfl | rfl <;> assumption) (by decide)) (by decide) ?_
    refine lv_iconst (v := (-1)) hx hb dX4_doing_78 (by decide) ?_
    exact RET (-1) () H locs _ _ (E.symm.trans hO) rfl hP hD hS dX4_doing_79
  · have E := x_neg E c_5
    refine lv_iconst (v := (-1)) hx hb dX4_doing_17 (by decide) ?_
    exact RET (-1) () H locs _ _ (E.symm.trans hO) rfl hP hD hS dX4_doing_18
abbrev rX4_passSeconds : Room := { frames := 4, cells := 0, slots := 0, locals := 92 }
theorem vX4_passSeconds : yX4_passSeconds.cls = RX4 ∧ yX4_passSeconds.cls ≠ "java/lang/invoke/MethodHandle" ∧ yX4_passSeconds.cls ≠ "java/lang/invoke/VarHandle" ∧ (parseMethodDescriptor yX4_passSeconds.desc).map (fun d => d.parameters.length) = some 3 := by decide +kernel
abbrev wX4_passSeconds : List Cond := Cond.code yX4_passSeconds cX4_passSeconds 5 (some .int) :: wsL_law
def F_X4_passSeconds_L3 (r_radius : Int32) (r_skin : Int32) (r_filling : Int32) (r_ends : Int32) (r_thin : Int32) (r_bentFace : Int32) (r_bentBy : Int32) (m_down : Int32) (m_pricked : Int32) (m_thinSpots : Int32) (a1 : Int32) (a2 : Int32) (a3 : Nat) : Nat → Nat → Int32 → Int32 → Int32 → Int32 → Int32 → Int32 → (Nat → Int32) → (Nat → Int32) → Int32 × Int32 × Int32 × Int32 × Int32 × Int32 × (Nat → Int32) × (Nat → Int32)
  | 0, k4_10, m_core_11, m_water_12, m_seconds_13, m_gone_14, m_splitAt_15, m_steam_16, m_degrees_17, m_brown_18 => (m_core_11, m_water_12, m_seconds_13, m_gone_14, m_splitAt_15, m_steam_16, m_degrees_17, m_brown_18)
  | n_19 + 1, k4_10, m_core_11, m_water_12, m_seconds_13, m_gone_14, m_splitAt_15, m_steam_16, m_degrees_17, m_brown_18 => if a3 ≤ k4_10 then (m_core_11, m_water_12, m_seconds_13, m_gone_14, m_splitAt_15, m_steam_16, m_degrees_17, m_brown_18) else x_nm (F_X1_pass m_down m_degrees_17 m_brown_18 m_core_11 m_water_12 m_pricked m_thinSpots m_seconds_13 m_gone_14 m_splitAt_15 r_radius r_skin r_filling r_ends r_thin r_bentFace r_bentBy a1 a2) fun u_31 => F_X4_passSeconds_L3 r_radius r_skin r_filling r_ends r_thin r_bentFace r_bentBy m_down m_pricked m_thinSpots a1 a2 a3 n_19 (k4_10 + 1) u_31.2.1 u_31.2.2.1 u_31.2.2.2.1 u_31.2.2.2.2.1 u_31.2.2.2.2.2.1 u_31.2.2.2.2.2.2.1 u_31.2.2.2.2.2.2.2.1 u_31.2.2.2.2.2.2.2.2
def F_X4_passSeconds (r_radius : Int32) (r_skin : Int32) (r_filling : Int32) (r_ends : Int32) (r_thin : Int32) (r_bentFace : Int32) (r_bentBy : Int32) (m_down : Int32) (m_degrees : Nat → Int32) (m_brown : Nat → Int32) (m_core : Int32) (m_water : Int32) (m_pricked : Int32) (m_thinSpots : Int32) (m_seconds : Int32) (m_gone : Int32) (m_splitAt : Int32) (m_steam : Int32) (a1 : Int32) (a2 : Int32) (a3 : Nat) : Int32 × Int32 × Int32 × Int32 × Int32 × Int32 × Int32 × (Nat → Int32) × (Nat → Int32) :=
  x_nm (α := Int32 × Int32 × Int32 × Int32 × Int32 × Int32 × (Nat → Int32) × (Nat → Int32)) (F_X4_passSeconds_L3 r_radius r_skin r_filling r_ends r_thin r_bentFace r_bentBy m_down m_pricked m_thinSpots a1 a2 a3 (a3 + 1) 0 m_core m_water m_seconds m_gone m_splitAt m_steam m_degrees m_brown) fun u_9 => (u_9.2.2.2.1, u_9.1, u_9.2.1, u_9.2.2.1, u_9.2.2.2.1, u_9.2.2.2.2.1, u_9.2.2.2.2.2.1, u_9.2.2.2.2.2.2.1, u_9.2.2.2.2.2.2.2)
set_option maxHeartbeats 4000000 in
set_option maxRecDepth 100000 in
theorem m_X4_passSeconds (l : Launch) (g : x_G) (tA rA mA mA_degrees mA_brown dA cA eA jA tA_images tA_kept tA_heats tA_salts tA_crumbsOf rA_kinds rA_firsts rA_seconds : Nat) (t_tests : Nat) (t_traced : Int64) (t_dryWeight : Int32) (r_radius : Int32) (r_skin : Int32) (r_filling : Int32) (r_water : Int32) (r_ends : Int32) (r_thin : Int32) (r_chance : Int32) (r_bentFace : Int32) (r_bentBy : Int32) (r_doings : Nat) (m_down : Int32) (m_core : Int32) (m_water : Int32) (m_pricked : Int32) (m_thinSpots : Int32) (m_seconds : Int32) (m_gone : Int32) (m_splitAt : Int32) (m_steam : Int32) (m_degrees : Nat → Int32) (m_brown : Nat → Int32) (a1 : Int32) (a2 : Int32) (a3 : Nat) (h_0 : a3 ≤ 99) : x_MetI l yX4_passSeconds wX4_passSeconds rX4_passSeconds g [.ref tA, .int a1, .int a2, .int (nI a3)] [(tA, .inr (4, [.ref rA, .ref dA, .ref cA, .ref eA, .ref mA, .ref jA, .ref tA_images, .ref tA_kept, .ref tA_heats, .ref tA_salts, .ref tA_crumbsOf, .int (nI t_tests), .long t_traced, .int t_dryWeight])), (rA, .inr (3, [.int r_radius, .int r_skin, .int r_filling, .int r_water, .int r_ends, .int r_thin, .int r_chance, .int r_bentFace, .int r_bentBy, .int (nI r_doings), .ref rA_kinds, .ref rA_firsts, .ref rA_seconds])), (mA, .inr (1, [.int m_down, .ref mA_degrees, .ref mA_brown, .int m_core, .int m_water, .int m_pricked, .int m_thinSpots, .int m_seconds, .int m_gone, .int m_splitAt, .int m_steam])), (mA_degrees, .inl (g.2.1 0, 4, .inl m_degrees)), (mA_brown, .inl (g.2.1 0, 4, .inl m_brown))] (fun (r : Int32) (u : Int32 × Int32 × Int32 × Int32 × Int32 × Int32 × (Nat → Int32) × (Nat → Int32)) => (r, u) = F_X4_passSeconds r_radius r_skin r_filling r_ends r_thin r_bentFace r_bentBy m_down m_degrees m_brown m_core m_water m_pricked m_thinSpots m_seconds m_gone m_splitAt m_steam a1 a2 a3) (fun u => [(tA, .inr (4, [.ref rA, .ref dA, .ref cA, .ref eA, .ref mA, .ref jA, .ref tA_images, .ref tA_kept, .ref tA_heats, .ref tA_salts, .ref tA_crumbsOf, .int (nI t_tests), .long t_traced, .int t_dryWeight])), (rA, .inr (3, [.int r_radius, .int r_skin, .int r_filling, .int r_water, .int r_ends, .int r_thin, .int r_chance, .int r_bentFace, .int r_bentBy, .int (nI r_doings), .ref rA_kinds, .ref rA_firsts, .ref rA_seconds])), (mA, .inr (1, [.int m_down, .ref mA_degrees, .ref mA_brown, .int u.1, .int u.2.1, .int m_pricked, .int m_thinSpots, .int u.2.2.1, .int u.2.2.2.1, .int u.2.2.2.2.1, .int u.2.2.2.2.2.1])), (mA_degrees, .inl (g.2.1 0, 4, .inl u.2.2.2.2.2.2.1)), (mA_brown, .inl (g.2.1 0, 4, .inl u.2.2.2.2.2.2.2))]) := by
  refine x_startI (cc := cX4_passSeconds) (maxL := 5) (by decide) rfl (Nat.le_of_ble_eq_true rfl) ?_
  intro p e s m args below meth c Q A ls H locs hx hb hml hown hts hK hX hP hD hS hA hl RET
  have hown : s.vm.findClass RX4 = some m.cls := hown
  have hl : lv_has ls 5 [(0, .ref tA), (1, .int a1), (2, .int a2), (3, .int (nI a3))] := hl
  obtain ⟨o_0, hO⟩ : ∃ z, z = F_X4_passSeconds r_radius r_skin r_filling r_ends r_thin r_bentFace r_bentBy m_down m_degrees m_brown m_core m_water m_pricked m_thinSpots m_seconds m_gone m_splitAt m_steam a1 a2 a3 := ⟨_, rfl⟩
  have E := hO
  rw [F_X4_passSeconds.eq_1] at E
  refine lv_iconst (v := 0) hx hb dX4_passSeconds_0 (by decide) ?_
  refine lv_istore (lv' := [(4, .int 0), (0, .ref tA), (1, .int a1), (2, .int a2), (3, .int (nI a3))]) hx hb dX4_passSeconds_1 hl (by decide) rfl (fun ls hl => ?_)
  obtain ⟨o_9, E_9, E⟩ := x_nm_ex E
  have J_9 : ∀ (m_core_1 : Int32) (m_water_2 : Int32) (m_seconds_3 : Int32) (m_gone_4 : Int32) (m_splitAt_5 : Int32) (m_steam_6 : Int32) (m_degrees_7 : Nat → Int32) (m_brown_8 : Nat → Int32), o_9 = (m_core_1, m_water_2, m_seconds_3, m_gone_4, m_splitAt_5, m_steam_6, m_degrees_7, m_brown_8) → ∀ (H : Heap) (locs : List Loc) (ls : Array Slot), va_P g.1 vwCl [(tA, .inr (4, [.ref rA, .ref dA, .ref cA, .ref eA, .ref mA, .ref jA, .ref tA_images, .ref tA_kept, .ref tA_heats, .ref tA_salts, .ref tA_crumbsOf, .int (nI t_tests), .long t_traced, .int t_dryWeight])), (rA, .inr (3, [.int r_radius, .int r_skin, .int r_filling, .int r_water, .int r_ends, .int r_thin, .int r_chance, .int r_bentFace, .int r_bentBy, .int (nI r_doings), .ref rA_kinds, .ref rA_firsts, .ref rA_seconds])), (mA, .inr (1, [.int m_down, .ref mA_degrees, .ref mA_brown, .int m_core_1, .int m_water_2, .int m_pricked, .int m_thinSpots, .int m_seconds_3, .int m_gone_4, .int m_splitAt_5, .int m_steam_6])), (mA_degrees, .inl (g.2.1 0, 4, .inl m_degrees_7)), (mA_brown, .inl (g.2.1 0, 4, .inl m_brown_8))] H → va_D A [(tA, .inr (4, [.ref rA, .ref dA, .ref cA, .ref eA, .ref mA, .ref jA, .ref tA_images, .ref tA_kept, .ref tA_heats, .ref tA_salts, .ref tA_crumbsOf, .int (nI t_tests), .long t_traced, .int t_dryWeight])), (rA, .inr (3, [.int r_radius, .int r_skin, .int r_filling, .int r_water, .int r_ends, .int r_thin, .int r_chance, .int r_bentFace, .int r_bentBy, .int (nI r_doings), .ref rA_kinds, .ref rA_firsts, .ref rA_seconds])), (mA, .inr (1, [.int m_down, .ref mA_degrees, .ref mA_brown, .int m_core_1, .int m_water_2, .int m_pricked, .int m_thinSpots, .int m_seconds_3, .int m_gone_4, .int m_splitAt_5, .int m_steam_6])), (mA_degrees, .inl (g.2.1 0, 4, .inl m_degrees_7)), (mA_brown, .inl (g.2.1 0, 4, .inl m_brown_8))] → va_S A s.heap H locs → lv_has ls 5 [(0, .ref tA)] → W p l e rX4_passSeconds s m args below meth c H locs 0 0 Q (F0 m 29 ls []) := by
    intro m_core_1 m_water_2 m_seconds_3 m_gone_4 m_splitAt_5 m_steam_6 m_degrees_7 m_brown_8 hE  H locs ls hP hD hS hl
    try rw [hE] at E
    refine lv_aload_n hx hb dX4_passSeconds_29 rfl (lv_at hl 0 rfl) ?_
    refine va_get (ci := 4) (v := .ref mA) (C := RX4) (T := TX4) (N := 14) hx hb hts inlX4 hown hK.1 hP 0 rfl rfl 4 (by decide) (hts _ kw_26) (fun _ h9 => h9) rfl dX4_passSeconds_30 ?_
    refine va_get (ci := 1) (v := .int m_gone_4) (C := RX1) (T := TX1) (N := 11) hx hb hts inlX1 hown hK.1 hP 2 rfl rfl 8 (by decide) (hts _ kw_384) (fun _ h9 => h9) rfl dX4_passSeconds_33 ?_
    exact RET m_gone_4 (m_core_1, m_water_2, m_seconds_3, m_gone_4, m_splitAt_5, m_steam_6, m_degrees_7, m_brown_8) H locs _ _ (E.symm.trans hO) rfl hP hD hS dX4_passSeconds_36
  have E := E_9
  have L_19 : ∀ (n_19 : Nat) (k4_10 : Nat) (m_core_11 : Int32) (m_water_12 : Int32) (m_seconds_13 : Int32) (m_gone_14 : Int32) (m_splitAt_15 : Int32) (m_steam_16 : Int32) (m_degrees_17 : Nat → Int32) (m_brown_18 : Nat → Int32), (k4_10 ≤ a3) → ((a3 - k4_10) < n_19) → o_9 = F_X4_passSeconds_L3 r_radius r_skin r_filling r_ends r_thin r_bentFace r_bentBy m_down m_pricked m_thinSpots a1 a2 a3 n_19 k4_10 m_core_11 m_water_12 m_seconds_13 m_gone_14 m_splitAt_15 m_steam_16 m_degrees_17 m_brown_18 → ∀ (H : Heap) (locs : List Loc) (ls : Array Slot), va_P g.1 vwCl [(tA, .inr (4, [.ref rA, .ref dA, .ref cA, .ref eA, .ref mA, .ref jA, .ref tA_images, .ref tA_kept, .ref tA_heats, .ref tA_salts, .ref tA_crumbsOf, .int (nI t_tests), .long t_traced, .int t_dryWeight])), (rA, .inr (3, [.int r_radius, .int r_skin, .int r_filling, .int r_water, .int r_ends, .int r_thin, .int r_chance, .int r_bentFace, .int r_bentBy, .int (nI r_doings), .ref rA_kinds, .ref rA_firsts, .ref rA_seconds])), (mA, .inr (1, [.int m_down, .ref mA_degrees, .ref mA_brown, .int m_core_11, .int m_water_12, .int m_pricked, .int m_thinSpots, .int m_seconds_13, .int m_gone_14, .int m_splitAt_15, .int m_steam_16])), (mA_degrees, .inl (g.2.1 0, 4, .inl m_degrees_17)), (mA_brown, .inl (g.2.1 0, 4, .inl m_brown_18))] H → va_D A [(tA, .inr (4, [.ref rA, .ref dA, .ref cA, .ref eA, .ref mA, .ref jA, .ref tA_images, .ref tA_kept, .ref tA_heats, .ref tA_salts, .ref tA_crumbsOf, .int (nI t_tests), .long t_traced, .int t_dryWeight])), (rA, .inr (3, [.int r_radius, .int r_skin, .int r_filling, .int r_water, .int r_ends, .int r_thin, .int r_chance, .int r_bentFace, .int r_bentBy, .int (nI r_doings), .ref rA_kinds, .ref rA_firsts, .ref rA_seconds])), (mA, .inr (1, [.int m_down, .ref mA_degrees, .ref mA_brown, .int m_core_11, .int m_water_12, .int m_pricked, .int m_thinSpots, .int m_seconds_13, .int m_gone_14, .int m_splitAt_15, .int m_steam_16])), (mA_degrees, .inl (g.2.1 0, 4, .inl m_degrees_17)), (mA_brown, .inl (g.2.1 0, 4, .inl m_brown_18))] → va_S A s.heap H locs → lv_has ls 5 [(0, .ref tA), (1, .int a1), (2, .int a2), (3, .int (nI a3)), (4, .int (nI k4_10))] → W p l e rX4_passSeconds s m args below meth c H locs 0 0 Q (F0 m 3 ls []) := by
    intro n_19
    induction n_19 with
    | zero => intro k4_10 m_core_11 m_water_12 m_seconds_13 m_gone_14 m_splitAt_15 m_steam_16 m_degrees_17 m_brown_18 i_19_0 i_19_1; exact absurd i_19_1 (by omega)
    | succ n_19 ih_19 =>
      intro k4_10 m_core_11 m_water_12 m_seconds_13 m_gone_14 m_splitAt_15 m_steam_16 m_degrees_17 m_brown_18 i_19_0 i_19_1 E H locs ls hP hD hS hl
      rw [F_X4_passSeconds_L3.eq_2] at E
      refine lv_iload hx hb dX4_passSeconds_3 (lv_at hl 4 rfl) ?_
      refine lv_iload_n hx hb dX4_passSeconds_5 rfl (lv_at hl 3 rfl) ?_
      refine x_icmp_ge (a := k4_10) (b := a3) (tgt := 29) hx hb (by omega) (by omega) dX4_passSeconds_6 (by decide) (fun c_20 => ?_) (fun c_20 => ?_)
      · have E := x_pos E c_20
        exact J_9 m_core_11 m_water_12 m_seconds_13 m_gone_14 m_splitAt_15 m_steam_16 m_degrees_17 m_brown_18 E  H locs ls hP hD hS (lv_sub hl [0] rfl)
      · have E := x_neg E c_20
        refine lv_aload_n hx hb dX4_passSeconds_9 rfl (lv_at hl 0 rfl) ?_
        refine va_get (ci := 4) (v := .ref mA) (C := RX4) (T := TX4) (N := 14) hx hb hts inlX4 hown hK.1 hP 0 rfl rfl 4 (by decide) (hts _ kw_26) (fun _ h9 => h9) rfl dX4_passSeconds_10 ?_
        refine lv_aload_n hx hb dX4_passSeconds_13 rfl (lv_at hl 0 rfl) ?_
        refine va_get (ci := 4) (v := .ref rA) (C := RX4) (T := TX4) (N := 14) hx hb hts inlX4 hown hK.1 hP 0 rfl rfl 0 (by decide) (hts _ kw_16) (fun _ h9 => h9) rfl dX4_passSeconds_14 ?_
        refine lv_iload_n hx hb dX4_passSeconds_17 rfl (lv_at hl 1 rfl) ?_
        refine lv_iload_n hx hb dX4_passSeconds_18 rfl (lv_at hl 2 rfl) ?_
        refine x_callVi (w2 := fun u => [(tA, .inr (4, [.ref rA, .ref dA, .ref cA, .ref eA, .ref mA, .ref jA, .ref tA_images, .ref tA_kept, .ref tA_heats, .ref tA_salts, .ref tA_crumbsOf, .int (nI t_tests), .long t_traced, .int t_dryWeight])), (rA, .inr (3, [.int r_radius, .int r_skin, .int r_filling, .int r_water, .int r_ends, .int r_thin, .int r_chance, .int r_bentFace, .int r_bentBy, .int (nI r_doings), .ref rA_kinds, .ref rA_firsts, .ref rA_seconds])), (mA, .inr (1, [.int m_down, .ref mA_degrees, .ref mA_brown, .int u.1, .int u.2.1, .int m_pricked, .int m_thinSpots, .int u.2.2.1, .int u.2.2.2.1, .int u.2.2.2.2.1, .int u.2.2.2.2.2.1])), (mA_degrees, .inl (g.2.1 0, 4, .inl u.2.2.2.2.2.2.1)), (mA_brown, .inl (g.2.1 0, 4, .inl u.2.2.2.2.2.2.2))]) (wr := [(tA, .inr (4, [.ref rA, .ref dA, .ref cA, .ref eA, .ref mA, .ref jA, .ref tA_images, .ref tA_kept, .ref tA_heats, .ref tA_salts, .ref tA_crumbsOf, .int (nI t_tests), .long t_traced, .int t_dryWeight]))]) [2, 3, 4, 1] [0] [0, 4, 1, 2, 3] 2 1 ⟨hx, hb, hml, hown, hts⟩ hK hX hP hD hS hA (m_X1_pass l g mA mA_degrees mA_brown rA rA_kinds rA_firsts rA_seconds m_down m_core_11 m_water_12 m_pricked m_thinSpots m_seconds_13 m_gone_14 m_splitAt_15 m_steam_16 m_degrees_17 m_brown_18 r_radius r_skin r_filling r_water r_ends r_thin r_chance r_bentFace r_bentBy r_doings a1 a2) (cwV 3 hts (x_gV kw_385 kw_386 kw_387 kw_25 kw_388) rfl rfl rfl vX1_pass ⟨Nat.le_of_ble_eq_true rfl, Nat.le_of_ble_eq_true rfl⟩) rfl rfl rfl rfl rfl rfl rfl (by decide) (fun _ => rfl) rfl rfl hl.1 rfl (Nat.le_of_ble_eq_true rfl) dX4_passSeconds_19 ⟨Nat.zero_le _, Nat.zero_le _⟩ (fun z_29 u H locs hw_30 hP hD hS => ?_)
        obtain ⟨m_core_21, m_water_22, m_seconds_23, m_gone_24, m_splitAt_25, m_steam_26, m_degrees_27, m_brown_28⟩ := u
        have hP : va_P g.1 vwCl [(tA, .inr (4, [.ref rA, .ref dA, .ref cA, .ref eA, .ref mA, .ref jA, .ref tA_images, .ref tA_kept, .ref tA_heats, .ref tA_salts, .ref tA_crumbsOf, .int (nI t_tests), .long t_traced, .int t_dryWeight])), (rA, .inr (3, [.int r_radius, .int r_skin, .int r_filling, .int r_water, .int r_ends, .int r_thin, .int r_chance, .int r_bentFace, .int r_bentBy, .int (nI r_doings), .ref rA_kinds, .ref rA_firsts, .ref rA_seconds])), (mA, .inr (1, [.int m_down, .ref mA_degrees, .ref mA_brown, .int m_core_21, .int m_water_22, .int m_pricked, .int m_thinSpots, .int m_seconds_23, .int m_gone_24, .int m_splitAt_25, .int m_steam_26])), (mA_degrees, .inl (g.2.1 0, 4, .inl m_degrees_27)), (mA_brown, .inl (g.2.1 0, 4, .inl m_brown_28))] H := hP
        have hD : va_D A [(tA, .inr (4, [.ref rA, .ref dA, .ref cA, .ref eA, .ref mA, .ref jA, .ref tA_images, .ref tA_kept, .ref tA_heats, .ref tA_salts, .ref tA_crumbsOf, .int (nI t_tests), .long t_traced, .int t_dryWeight])), (rA, .inr (3, [.int r_radius, .int r_skin, .int r_filling, .int r_water, .int r_ends, .int r_thin, .int r_chance, .int r_bentFace, .int r_bentBy, .int (nI r_doings), .ref rA_kinds, .ref rA_firsts, .ref rA_seconds])), (mA, .inr (1, [.int m_down, .ref mA_degrees, .ref mA_brown, .int m_core_21, .int m_water_22, .int m_pricked, .int m_thinSpots, .int m_seconds_23, .int m_gone_24, .int m_splitAt_25, .int m_steam_26])), (mA_degrees, .inl (g.2.1 0, 4, .inl m_degrees_27)), (mA_brown, .inl (g.2.1 0, 4, .inl m_brown_28))] := hD
        have E := x_nm_eq E hw_30
        refine lv_pop hx hb dX4_passSeconds_22 rfl ?_
        refine lv_iinc (v := nI (k4_10 + 1)) (lv' := [(4, .int (nI (k4_10 + 1))), (0, .ref tA), (1, .int a1), (2, .int a2), (3, .int (nI a3))]) hx hb dX4_passSeconds_23 hl (k := 4) rfl (nI_1 k4_10) (by decide) rfl (fun ls hl => ?_)
        refine lv_goto (tgt := 3) hx hb dX4_passSeconds_26 (by decide) ?_
        exact ih_19 (k4_10 + 1) m_core_21 m_water_22 m_seconds_23 m_gone_24 m_splitAt_25 m_steam_26 m_degrees_27 m_brown_28 (by first | omega | assumption | exact Eq.trans (by assumption) (by assumption)) (by omega) E H locs ls hP hD hS (lv_sub hl [1, 2, 3, 4, 0] rfl)
  exact L_19 (a3 + 1) 0 m_core m_water m_seconds m_gone m_splitAt m_steam m_degrees m_brown (by first | omega | assumption | rfl) (by omega) E H locs ls hP hD hS (lv_sub hl [1, 2, 3, 4, 0] rfl)
abbrev rX4_fire : Room := { frames := 5, cells := 0, slots := 0, locals := 116 }
theorem vX4_fire : yX4_fire.cls = RX4 ∧ yX4_fire.cls ≠ "java/lang/invoke/MethodHandle" ∧ yX4_fire.cls ≠ "java/lang/invoke/VarHandle" ∧ (parseMethodDescriptor yX4_fire.desc).map (fun d => d.parameters.length) = some 2 := by decide +kernel
abbrev wX4_fire : List Cond := Cond.code yX4_fire cX4_fire 3 (some .int) :: wsL_law
def F_X4_fire (r_radius : Int32) (r_skin : Int32) (r_filling : Int32) (r_ends : Int32) (r_thin : Int32) (r_bentFace : Int32) (r_bentBy : Int32) (m_down : Int32) (m_degrees : Nat → Int32) (m_brown : Nat → Int32) (m_core : Int32) (m_water : Int32) (m_pricked : Int32) (m_thinSpots : Int32) (m_seconds : Int32) (m_gone : Int32) (m_splitAt : Int32) (m_steam : Int32) (a1 : Int32) (a2 : Int32) : Int32 × Int32 × Int32 × Int32 × Int32 × Int32 × Int32 × (Nat → Int32) × (Nat → Int32) :=
  x_nm (F_X4_outside a1 0 300) fun z_1 => if z_1 = 0 then x_nm (a1.toNatClampNeg) fun j_7 => x_nm (F_X4_outside a2 1 99) fun z_8 => if z_8 = 0 then x_nm (a2.toNatClampNeg) fun j_14 => x_nm (F_X4_passSeconds r_radius r_skin r_filling r_ends r_thin r_bentFace r_bentBy m_down m_degrees m_brown m_core m_water m_pricked m_thinSpots m_seconds m_gone m_splitAt m_steam 0 (nI j_7) j_14) fun u_25 => (u_25.1, u_25.2.1, u_25.2.2.1, u_25.2.2.2.1, u_25.2.2.2.2.1, u_25.2.2.2.2.2.1, u_25.2.2.2.2.2.2.1, u_25.2.2.2.2.2.2.2.1, u_25.2.2.2.2.2.2.2.2) else ((-1), m_core, m_water, m_seconds, m_gone, m_splitAt, m_steam, m_degrees, m_brown) else ((-1), m_core, m_water, m_seconds, m_gone, m_splitAt, m_steam, m_degrees, m_brown)
set_option maxHeartbeats 4000000 in
set_option maxRecDepth 100000 in
theorem m_X4_fire (l : Launch) (g : x_G) (tA rA mA mA_degrees mA_brown dA cA eA jA tA_images tA_kept tA_heats tA_salts tA_crumbsOf rA_kinds rA_firsts rA_seconds : Nat) (t_tests : Nat) (t_traced : Int64) (t_dryWeight : Int32) (r_radius : Int32) (r_skin : Int32) (r_filling : Int32) (r_water : Int32) (r_ends : Int32) (r_thin : Int32) (r_chance : Int32) (r_bentFace : Int32) (r_bentBy : Int32) (r_doings : Nat) (m_down : Int32) (m_core : Int32) (m_water : Int32) (m_pricked : Int32) (m_thinSpots : Int32) (m_seconds : Int32) (m_gone : Int32) (m_splitAt : Int32) (m_steam : Int32) (m_degrees : Nat → Int32) (m_brown : Nat → Int32) (a1 : Int32) (a2 : Int32) : x_MetI l yX4_fire wX4_fire rX4_fire g [.ref tA, .int a1, .int a2] [(tA, .inr (4, [.ref rA, .ref dA, .ref cA, .ref eA, .ref mA, .ref jA, .ref tA_images, .ref tA_kept, .ref tA_heats, .ref tA_salts, .ref tA_crumbsOf, .int (nI t_tests), .long t_traced, .int t_dryWeight])), (rA, .inr (3, [.int r_radius, .int r_skin, .int r_filling, .int r_water, .int r_ends, .int r_thin, .int r_chance, .int r_bentFace, .int r_bentBy, .int (nI r_doings), .ref rA_kinds, .ref rA_firsts, .ref rA_seconds])), (mA, .inr (1, [.int m_down, .ref mA_degrees, .ref mA_brown, .int m_core, .int m_water, .int m_pricked, .int m_thinSpots, .int m_seconds, .int m_gone, .int m_splitAt, .int m_steam])), (mA_degrees, .inl (g.2.1 0, 4, .inl m_degrees)), (mA_brown, .inl (g.2.1 0, 4, .inl m_brown))] (fun (r : Int32) (u : Int32 × Int32 × Int32 × Int32 × Int32 × Int32 × (Nat → Int32) × (Nat → Int32)) => (r, u) = F_X4_fire r_radius r_skin r_filling r_ends r_thin r_bentFace r_bentBy m_down m_degrees m_brown m_core m_water m_pricked m_thinSpots m_seconds m_gone m_splitAt m_steam a1 a2) (fun u => [(tA, .inr (4, [.ref rA, .ref dA, .ref cA, .ref eA, .ref mA, .ref jA, .ref tA_images, .ref tA_kept, .ref tA_heats, .ref tA_salts, .ref tA_crumbsOf, .int (nI t_tests), .long t_traced, .int t_dryWeight])), (rA, .inr (3, [.int r_radius, .int r_skin, .int r_filling, .int r_water, .int r_ends, .int r_thin, .int r_chance, .int r_bentFace, .int r_bentBy, .int (nI r_doings), .ref rA_kinds, .ref rA_firsts, .ref rA_seconds])), (mA, .inr (1, [.int m_down, .ref mA_degrees, .ref mA_brown, .int u.1, .int u.2.1, .int m_pricked, .int m_thinSpots, .int u.2.2.1, .int u.2.2.2.1, .int u.2.2.2.2.1, .int u.2.2.2.2.2.1])), (mA_degrees, .inl (g.2.1 0, 4, .inl u.2.2.2.2.2.2.1)), (mA_brown, .inl (g.2.1 0, 4, .inl u.2.2.2.2.2.2.2))]) := by
  refine x_startI (cc := cX4_fire) (maxL := 3) (by decide) rfl (Nat.le_of_ble_eq_true rfl) ?_
  intro p e s m args below meth c Q A ls H locs hx hb hml hown hts hK hX hP hD hS hA hl RET
  have hown : s.vm.findClass RX4 = some m.cls := hown
  have hl : lv_has ls 3 [(0, .ref tA), (1, .int a1), (2, .int a2)] := hl
  obtain ⟨o_0, hO⟩ : ∃ z, z = F_X4_fire r_radius r_skin r_filling r_ends r_thin r_bentFace r_bentBy m_down m_degrees m_brown m_core m_water m_pricked m_thinSpots m_seconds m_gone m_splitAt m_steam a1 a2 := ⟨_, rfl⟩
  have E := hO
  rw [F_X4_fire.eq_1] at E
  refine lv_iload_n hx hb dX4_fire_0 rfl (lv_at hl 1 rfl) ?_
  refine lv_iconst (v := 0) hx hb dX4_fire_1 (by decide) ?_
  refine lv_sipush (v := 300) hx hb dX4_fire_2 (by decide) ?_
  refine x_callS0 ⟨hx, hb, hml, hown, hts⟩ hK hX hP hD hS hA (m_X4_outside l g a1 0 300) (va_cwS 3 hts (x_gS kw_115 kw_116 kw_2 kw_117) rfl rfl rfl vX4_outsideS ⟨Nat.le_of_ble_eq_true rfl, Nat.le_of_ble_eq_true rfl⟩) rfl hl.1 rfl (Nat.le_of_ble_eq_true rfl) dX4_fire_5 ⟨Nat.zero_le _, Nat.zero_le _⟩ (fun z_1 _ H locs hw_2 hP hD hS => ?_)
  obtain ⟨hw_2, b_3⟩ := hw_2
  have E := x_nm_eq E hw_2
  refine x_if_neI (tgt := 21) hx hb dX4_fire_8 (by decide) (fun c_5 => ?_) (fun c_5 => ?_)
  · have E := x_neg E c_5
    refine lv_iconst (v := (-1)) hx hb dX4_fire_21 (by decide) ?_
    exact RET (-1) (m_core, m_water, m_seconds, m_gone, m_splitAt, m_steam, m_degrees, m_brown) H locs _ _ (E.symm.trans hO) rfl hP hD hS dX4_fire_22
  · have E := x_pos E c_5
    obtain ⟨j_7, hj⟩ : ∃ z, z = (a1).toNatClampNeg := ⟨_, rfl⟩
    have r_6_0 := (x_outs (lo := 0) (hi := 300) (by omega) (by omega) (hw_2.symm.trans c_5))
    rw [← hj] at r_6_0
    obtain ⟨r_6_0_a, r_6_0_b, e_6_0⟩ := r_6_0
    have E := x_nm_eq E hj
    have hl : lv_has ls 3 [(0, .ref tA), (1, .int (nI j_7)), (2, .int a2)] := by rw [e_6_0] at hl; exact hl
    refine lv_iload_n hx hb dX4_fire_11 rfl (lv_at hl 2 rfl) ?_
    refine lv_iconst (v := 1) hx hb dX4_fire_12 (by decide) ?_
    refine lv_bipush (v := 99) hx hb dX4_fire_13 (by decide) ?_
    refine x_callS0 ⟨hx, hb, hml, hown, hts⟩ hK hX hP hD hS hA (m_X4_outside l g a2 1 99) (va_cwS 3 hts (x_gS kw_115 kw_116 kw_2 kw_117) rfl rfl rfl vX4_outsideS ⟨Nat.le_of_ble_eq_true rfl, Nat.le_of_ble_eq_true rfl⟩) rfl hl.1 rfl (Nat.le_of_ble_eq_true rfl) dX4_fire_15 ⟨Nat.zero_le _, Nat.zero_le _⟩ (fun z_8 _ H locs hw_9 hP hD hS => ?_)
    obtain ⟨hw_9, b_10⟩ := hw_9
    have E := x_nm_eq E hw_9
    refine lv_if_eq (tgt := 23) hx hb dX4_fire_18 (by decide) (fun c_12 => ?_) (fun c_12 => ?_)
    · have E := x_pos E c_12
      obtain ⟨j_14, hj⟩ : ∃ z, z = (a2).toNatClampNeg := ⟨_, rfl⟩
      have r_13_0 := (x_outs (lo := 1) (hi := 99) (by omega) (by omega) (hw_9.symm.trans c_12))
      rw [← hj] at r_13_0
      obtain ⟨r_13_0_a, r_13_0_b, e_13_0⟩ := r_13_0
      have E := x_nm_eq E hj
      have hl : lv_has ls 3 [(0, .ref tA), (1, .int (nI j_7)), (2, .int (nI j_14))] := by rw [e_13_0] at hl; exact hl
      refine lv_aload_n hx hb dX4_fire_23 rfl (lv_at hl 0 rfl) ?_
      refine lv_iconst (v := 0) hx hb dX4_fire_24 (by decide) ?_
      refine lv_iload_n hx hb dX4_fire_25 rfl (lv_at hl 1 rfl) ?_
      refine lv_iload_n hx hb dX4_fire_26 rfl (lv_at hl 2 rfl) ?_
      refine x_callVi (w2 := fun u => [(tA, .inr (4, [.ref rA, .ref dA, .ref cA, .ref eA, .ref mA, .ref jA, .ref tA_images, .ref tA_kept, .ref tA_heats, .ref tA_salts, .ref tA_crumbsOf, .int (nI t_tests), .long t_traced, .int t_dryWeight])), (rA, .inr (3, [.int r_radius, .int r_skin, .int r_filling, .int r_water, .int r_ends, .int r_thin, .int r_chance, .int r_bentFace, .int r_bentBy, .int (nI r_doings), .ref rA_kinds, .ref rA_firsts, .ref rA_seconds])), (mA, .inr (1, [.int m_down, .ref mA_degrees, .ref mA_brown, .int u.1, .int u.2.1, .int m_pricked, .int m_thinSpots, .int u.2.2.1, .int u.2.2.2.1, .int u.2.2.2.2.1, .int u.2.2.2.2.2.1])), (mA_degrees, .inl (g.2.1 0, 4, .inl u.2.2.2.2.2.2.1)), (mA_brown, .inl (g.2.1 0, 4, .inl u.2.2.2.2.2.2.2))]) (wr := []) [0, 1, 2, 3, 4] [] [0, 1, 2, 3, 4] 0 4 ⟨hx, hb, hml, hown, hts⟩ hK hX hP hD hS hA (m_X4_passSeconds l g tA rA mA mA_degrees mA_brown dA cA eA jA tA_images tA_kept tA_heats tA_salts tA_crumbsOf rA_kinds rA_firsts rA_seconds t_tests t_traced t_dryWeight r_radius r_skin r_filling r_water r_ends r_thin r_chance r_bentFace r_bentBy r_doings m_down m_core m_water m_pricked m_thinSpots m_seconds m_gone m_splitAt m_steam m_degrees m_brown 0 (nI j_7) j_14 (by first | assumption | omega | exact x_e8 (by assumption) (by assumption))) (cwV 3 hts (x_gV kw_380 kw_381 kw_382 kw_2 kw_383) rfl rfl rfl vX4_passSeconds ⟨Nat.le_of_ble_eq_true rfl, Nat.le_of_ble_eq_true rfl⟩) rfl rfl rfl rfl rfl rfl rfl (by decide) (fun _ => rfl) rfl rfl hl.1 rfl (Nat.le_of_ble_eq_true rfl) dX4_fire_27 ⟨Nat.zero_le _, Nat.zero_le _⟩ (fun z_23 u H locs hw_24 hP hD hS => ?_)
      obtain ⟨m_core_15, m_water_16, m_seconds_17, m_gone_18, m_splitAt_19, m_steam_20, m_degrees_21, m_brown_22⟩ := u
      have hP : va_P g.1 vwCl [(tA, .inr (4, [.ref rA, .ref dA, .ref cA, .ref eA, .ref mA, .ref jA, .ref tA_images, .ref tA_kept, .ref tA_heats, .ref tA_salts, .ref tA_crumbsOf, .int (nI t_tests), .long t_traced, .int t_dryWeight])), (rA, .inr (3, [.int r_radius, .int r_skin, .int r_filling, .int r_water, .int r_ends, .int r_thin, .int r_chance, .int r_bentFace, .int r_bentBy, .int (nI r_doings), .ref rA_kinds, .ref rA_firsts, .ref rA_seconds])), (mA, .inr (1, [.int m_down, .ref mA_degrees, .ref mA_brown, .int m_core_15, .int m_water_16, .int m_pricked, .int m_thinSpots, .int m_seconds_17, .int m_gone_18, .int m_splitAt_19, .int m_steam_20])), (mA_degrees, .inl (g.2.1 0, 4, .inl m_degrees_21)), (mA_brown, .inl (g.2.1 0, 4, .inl m_brown_22))] H := hP
      have hD : va_D A [(tA, .inr (4, [.ref rA, .ref dA, .ref cA, .ref eA, .ref mA, .ref jA, .ref tA_images, .ref tA_kept, .ref tA_heats, .ref tA_salts, .ref tA_crumbsOf, .int (nI t_tests), .long t_traced, .int t_dryWeight])), (rA, .inr (3, [.int r_radius, .int r_skin, .int r_filling, .int r_water, .int r_ends, .int r_thin, .int r_chance, .int r_bentFace, .int r_bentBy, .int (nI r_doings), .ref rA_kinds, .ref rA_firsts, .ref rA_seconds])), (mA, .inr (1, [.int m_down, .ref mA_degrees, .ref mA_brown, .int m_core_15, .int m_water_16, .int m_pricked, .int m_thinSpots, .int m_seconds_17, .int m_gone_18, .int m_splitAt_19, .int m_steam_20])), (mA_degrees, .inl (g.2.1 0, 4, .inl m_degrees_21)), (mA_brown, .inl (g.2.1 0, 4, .inl m_brown_22))] := hD
      have E := x_nm_eq E hw_24
      exact RET z_23 (m_core_15, m_water_16, m_seconds_17, m_gone_18, m_splitAt_19, m_steam_20, m_degrees_21, m_brown_22) H locs _ _ (E.symm.trans hO) rfl hP hD hS dX4_fire_30
    · have E := x_neg E c_12
      refine lv_iconst (v := (-1)) hx hb dX4_fire_21 (by decide) ?_
      exact RET (-1) (m_core, m_water, m_seconds, m_gone, m_splitAt, m_steam, m_degrees, m_brown) H locs _ _ (E.symm.trans hO) rfl hP hD hS dX4_fire_22
abbrev rX4_simmer : Room := { frames := 5, cells := 0, slots := 0, locals := 116 }
theorem vX4_simmer : yX4_simmer.cls = RX4 ∧ yX4_simmer.cls ≠ "java/lang/invoke/MethodHandle" ∧ yX4_simmer.cls ≠ "java/lang/invoke/VarHandle" ∧ (parseMethodDescriptor yX4_simmer.desc).map (fun d => d.parameters.length) = some 2 := by decide +kernel
abbrev wX4_simmer : List Cond := Cond.code yX4_simmer cX4_simmer 3 (some .int) :: wsL_law
def F_X4_simmer (r_radius : Int32) (r_skin : Int32) (r_filling : Int32) (r_ends : Int32) (r_thin : Int32) (r_bentFace : Int32) (r_bentBy : Int32) (m_down : Int32) (m_degrees : Nat → Int32) (m_brown : Nat → Int32) (m_core : Int32) (m_water : Int32) (m_pricked : Int32) (m_thinSpots : Int32) (m_seconds : Int32) (m_gone : Int32) (m_splitAt : Int32) (m_steam : Int32) (a1 : Int32) (a2 : Int32) : Int32 × Int32 × Int32 × Int32 × Int32 × Int32 × Int32 × (Nat → Int32) × (Nat → Int32) :=
  x_nm (F_X4_outside a1 20 100) fun z_1 => if z_1 = 0 then x_nm (a1.toNatClampNeg) fun j_7 => x_nm (F_X4_outside a2 1 99) fun z_8 => if z_8 = 0 then x_nm (a2.toNatClampNeg) fun j_14 => x_nm (F_X4_passSeconds r_radius r_skin r_filling r_ends r_thin r_bentFace r_bentBy m_down m_degrees m_brown m_core m_water m_pricked m_thinSpots m_seconds m_gone m_splitAt m_steam 3 (nI j_7) j_14) fun u_25 => (u_25.1, u_25.2.1, u_25.2.2.1, u_25.2.2.2.1, u_25.2.2.2.2.1, u_25.2.2.2.2.2.1, u_25.2.2.2.2.2.2.1, u_25.2.2.2.2.2.2.2.1, u_25.2.2.2.2.2.2.2.2) else ((-1), m_core, m_water, m_seconds, m_gone, m_splitAt, m_steam, m_degrees, m_brown) else ((-1), m_core, m_water, m_seconds, m_gone, m_splitAt, m_steam, m_degrees, m_brown)
set_option maxHeartbeats 4000000 in
set_option maxRecDepth 100000 in
theorem m_X4_simmer (l : Launch) (g : x_G) (tA rA mA mA_degrees mA_brown dA cA eA jA tA_images tA_kept tA_heats tA_salts tA_crumbsOf rA_kinds rA_firsts rA_seconds : Nat) (t_tests : Nat) (t_traced : Int64) (t_dryWeight : Int32) (r_radius : Int32) (r_skin : Int32) (r_filling : Int32) (r_water : Int32) (r_ends : Int32) (r_thin : Int32) (r_chance : Int32) (r_bentFace : Int32) (r_bentBy : Int32) (r_doings : Nat) (m_down : Int32) (m_core : Int32) (m_water : Int32) (m_pricked : Int32) (m_thinSpots : Int32) (m_seconds : Int32) (m_gone : Int32) (m_splitAt : Int32) (m_steam : Int32) (m_degrees : Nat → Int32) (m_brown : Nat → Int32) (a1 : Int32) (a2 : Int32) : x_MetI l yX4_simmer wX4_simmer rX4_simmer g [.ref tA, .int a1, .int a2] [(tA, .inr (4, [.ref rA, .ref dA, .ref cA, .ref eA, .ref mA, .ref jA, .ref tA_images, .ref tA_kept, .ref tA_heats, .ref tA_salts, .ref tA_crumbsOf, .int (nI t_tests), .long t_traced, .int t_dryWeight])), (rA, .inr (3, [.int r_radius, .int r_skin, .int r_filling, .int r_water, .int r_ends, .int r_thin, .int r_chance, .int r_bentFace, .int r_bentBy, .int (nI r_doings), .ref rA_kinds, .ref rA_firsts, .ref rA_seconds])), (mA, .inr (1, [.int m_down, .ref mA_degrees, .ref mA_brown, .int m_core, .int m_water, .int m_pricked, .int m_thinSpots, .int m_seconds, .int m_gone, .int m_splitAt, .int m_steam])), (mA_degrees, .inl (g.2.1 0, 4, .inl m_degrees)), (mA_brown, .inl (g.2.1 0, 4, .inl m_brown))] (fun (r : Int32) (u : Int32 × Int32 × Int32 × Int32 × Int32 × Int32 × (Nat → Int32) × (Nat → Int32)) => (r, u) = F_X4_simmer r_radius r_skin r_filling r_ends r_thin r_bentFace r_bentBy m_down m_degrees m_brown m_core m_water m_pricked m_thinSpots m_seconds m_gone m_splitAt m_steam a1 a2) (fun u => [(tA, .inr (4, [.ref rA, .ref dA, .ref cA, .ref eA, .ref mA, .ref jA, .ref tA_images, .ref tA_kept, .ref tA_heats, .ref tA_salts, .ref tA_crumbsOf, .int (nI t_tests), .long t_traced, .int t_dryWeight])), (rA, .inr (3, [.int r_radius, .int r_skin, .int r_filling, .int r_water, .int r_ends, .int r_thin, .int r_chance, .int r_bentFace, .int r_bentBy, .int (nI r_doings), .ref rA_kinds, .ref rA_firsts, .ref rA_seconds])), (mA, .inr (1, [.int m_down, .ref mA_degrees, .ref mA_brown, .int u.1, .int u.2.1, .int m_pricked, .int m_thinSpots, .int u.2.2.1, .int u.2.2.2.1, .int u.2.2.2.2.1, .int u.2.2.2.2.2.1])), (mA_degrees, .inl (g.2.1 0, 4, .inl u.2.2.2.2.2.2.1)), (mA_brown, .inl (g.2.1 0, 4, .inl u.2.2.2.2.2.2.2))]) := by
  refine x_startI (cc := cX4_simmer) (maxL := 3) (by decide) rfl (Nat.le_of_ble_eq_true rfl) ?_
  intro p e s m args below meth c Q A ls H locs hx hb hml hown hts hK hX hP hD hS hA hl RET
  have hown : s.vm.findClass RX4 = some m.cls := hown
  have hl : lv_has ls 3 [(0, .ref tA), (1, .int a1), (2, .int a2)] := hl
  obtain ⟨o_0, hO⟩ : ∃ z, z = F_X4_simmer r_radius r_skin r_filling r_ends r_thin r_bentFace r_bentBy m_down m_degrees m_brown m_core m_water m_pricked m_thinSpots m_seconds m_gone m_splitAt m_steam a1 a2 := ⟨_, rfl⟩
  have E := hO
  rw [F_X4_simmer.eq_1] at E
  refine lv_iload_n hx hb dX4_simmer_0 rfl (lv_at hl 1 rfl) ?_
  refine lv_bipush (v := 20) hx hb dX4_simmer_1 (by decide) ?_
  refine lv_bipush (v := 100) hx hb dX4_simmer_3 (by decide) ?_
  refine x_callS0 ⟨hx, hb, hml, hown, hts⟩ hK hX hP hD hS hA (m_X4_outside l g a1 20 100) (va_cwS 3 hts (x_gS kw_115 kw_116 kw_2 kw_117) rfl rfl rfl vX4_outsideS ⟨Nat.le_of_ble_eq_true rfl, Nat.le_of_ble_eq_true rfl⟩) rfl hl.1 rfl (Nat.le_of_ble_eq_true rfl) dX4_simmer_5 ⟨Nat.zero_le _, Nat.zero_le _⟩ (fun z_1 _ H locs hw_2 hP hD hS => ?_)
  obtain ⟨hw_2, b_3⟩ := hw_2
  have E := x_nm_eq E hw_2
  refine x_if_neI (tgt := 21) hx hb dX4_simmer_8 (by decide) (fun c_5 => ?_) (fun c_5 => ?_)
  · have E := x_neg E c_5
    refine lv_iconst (v := (-1)) hx hb dX4_simmer_21 (by decide) ?_
    exact RET (-1) (m_core, m_water, m_seconds, m_gone, m_splitAt, m_steam, m_degrees, m_brown) H locs _ _ (E.symm.trans hO) rfl hP hD hS dX4_simmer_22
  · have E := x_pos E c_5
    obtain ⟨j_7, hj⟩ : ∃ z, z = (a1).toNatClampNeg := ⟨_, rfl⟩
    have r_6_0 := (x_outs (lo := 20) (hi := 100) (by omega) (by omega) (hw_2.symm.trans c_5))
    rw [← hj] at r_6_0
    obtain ⟨r_6_0_a, r_6_0_b, e_6_0⟩ := r_6_0
    have E := x_nm_eq E hj
    have hl : lv_has ls 3 [(0, .ref tA), (1, .int (nI j_7)), (2, .int a2)] := by rw [e_6_0] at hl; exact hl
    refine lv_iload_n hx hb dX4_simmer_11 rfl (lv_at hl 2 rfl) ?_
    refine lv_iconst (v := 1) hx hb dX4_simmer_12 (by decide) ?_
    refine lv_bipush (v := 99) hx hb dX4_simmer_13 (by decide) ?_
    refine x_callS0 ⟨hx, hb, hml, hown, hts⟩ hK hX hP hD hS hA (m_X4_outside l g a2 1 99) (va_cwS 3 hts (x_gS kw_115 kw_116 kw_2 kw_117) rfl rfl rfl vX4_outsideS ⟨Nat.le_of_ble_eq_true rfl, Nat.le_of_ble_eq_true rfl⟩) rfl hl.1 rfl (Nat.le_of_ble_eq_true rfl) dX4_simmer_15 ⟨Nat.zero_le _, Nat.zero_le _⟩ (fun z_8 _ H locs hw_9 hP hD hS => ?_)
    obtain ⟨hw_9, b_10⟩ := hw_9
    have E := x_nm_eq E hw_9
    refine lv_if_eq (tgt := 23) hx hb dX4_simmer_18 (by decide) (fun c_12 => ?_) (fun c_12 => ?_)
    · have E := x_pos E c_12
      obtain ⟨j_14, hj⟩ : ∃ z, z = (a2).toNatClampNeg := ⟨_, rfl⟩
      have r_13_0 := (x_outs (lo := 1) (hi := 99) (by omega) (by omega) (hw_9.symm.trans c_12))
      rw [← hj] at r_13_0
      obtain ⟨r_13_0_a, r_13_0_b, e_13_0⟩ := r_13_0
      have E := x_nm_eq E hj
      have hl : lv_has ls 3 [(0, .ref tA), (1, .int (nI j_7)), (2, .int (nI j_14))] := by rw [e_13_0] at hl; exact hl
      refine lv_aload_n hx hb dX4_simmer_23 rfl (lv_at hl 0 rfl) ?_
      refine lv_iconst (v := 3) hx hb dX4_simmer_24 (by decide) ?_
      refine lv_iload_n hx hb dX4_simmer_25 rfl (lv_at hl 1 rfl) ?_
      refine lv_iload_n hx hb dX4_simmer_26 rfl (lv_at hl 2 rfl) ?_
      refine x_callVi (w2 := fun u => [(tA, .inr (4, [.ref rA, .ref dA, .ref cA, .ref eA, .ref mA, .ref jA, .ref tA_images, .ref tA_kept, .ref tA_heats, .ref tA_salts, .ref tA_crumbsOf, .int (nI t_tests), .long t_traced, .int t_dryWeight])), (rA, .inr (3, [.int r_radius, .int r_skin, .int r_filling, .int r_water, .int r_ends, .int r_thin, .int r_chance, .int r_bentFace, .int r_bentBy, .int (nI r_doings), .ref rA_kinds, .ref rA_firsts, .ref rA_seconds])), (mA, .inr (1, [.int m_down, .ref mA_degrees, .ref mA_brown, .int u.1, .int u.2.1, .int m_pricked, .int m_thinSpots, .int u.2.2.1, .int u.2.2.2.1, .int u.2.2.2.2.1, .int u.2.2.2.2.2.1])), (mA_degrees, .inl (g.2.1 0, 4, .inl u.2.2.2.2.2.2.1)), (mA_brown, .inl (g.2.1 0, 4, .inl u.2.2.2.2.2.2.2))]) (wr := []) [0, 1, 2, 3, 4] [] [0, 1, 2, 3, 4] 0 4 ⟨hx, hb, hml, hown, hts⟩ hK hX hP hD hS hA (m_X4_passSeconds l g tA rA mA mA_degrees mA_brown dA cA eA jA tA_images tA_kept tA_heats tA_salts tA_crumbsOf rA_kinds rA_firsts rA_seconds t_tests t_traced t_dryWeight r_radius r_skin r_filling r_water r_ends r_thin r_chance r_bentFace r_bentBy r_doings m_down m_core m_water m_pricked m_thinSpots m_seconds m_gone m_splitAt m_steam m_degrees m_brown 3 (nI j_7) j_14 (by first | assumption | omega | exact x_e8 (by assumption) (by assumption))) (cwV 3 hts (x_gV kw_380 kw_381 kw_382 kw_2 kw_383) rfl rfl rfl vX4_passSeconds ⟨Nat.le_of_ble_eq_true rfl, Nat.le_of_ble_eq_true rfl⟩) rfl rfl rfl rfl rfl rfl rfl (by decide) (fun _ => rfl) rfl rfl hl.1 rfl (Nat.le_of_ble_eq_true rfl) dX4_simmer_27 ⟨Nat.zero_le _, Nat.zero_le _⟩ (fun z_23 u H locs hw_24 hP hD hS => ?_)
      obtain ⟨m_core_15, m_water_16, m_seconds_17, m_gone_18, m_splitAt_19, m_steam_20, m_degrees_21, m_brown_22⟩ := u
      have hP : va_P g.1 vwCl [(tA, .inr (4, [.ref rA, .ref dA, .ref cA, .ref eA, .ref mA, .ref jA, .ref tA_images, .ref tA_kept, .ref tA_heats, .ref tA_salts, .ref tA_crumbsOf, .int (nI t_tests), .long t_traced, .int t_dryWeight])), (rA, .inr (3, [.int r_radius, .int r_skin, .int r_filling, .int r_water, .int r_ends, .int r_thin, .int r_chance, .int r_bentFace, .int r_bentBy, .int (nI r_doings), .ref rA_kinds, .ref rA_firsts, .ref rA_seconds])), (mA, .inr (1, [.int m_down, .ref mA_degrees, .ref mA_brown, .int m_core_15, .int m_water_16, .int m_pricked, .int m_thinSpots, .int m_seconds_17, .int m_gone_18, .int m_splitAt_19, .int m_steam_20])), (mA_degrees, .inl (g.2.1 0, 4, .inl m_degrees_21)), (mA_brown, .inl (g.2.1 0, 4, .inl m_brown_22))] H := hP
      have hD : va_D A [(tA, .inr (4, [.ref rA, .ref dA, .ref cA, .ref eA, .ref mA, .ref jA, .ref tA_images, .ref tA_kept, .ref tA_heats, .ref tA_salts, .ref tA_crumbsOf, .int (nI t_tests), .long t_traced, .int t_dryWeight])), (rA, .inr (3, [.int r_radius, .int r_skin, .int r_filling, .int r_water, .int r_ends, .int r_thin, .int r_chance, .int r_bentFace, .int r_bentBy, .int (nI r_doings), .ref rA_kinds, .ref rA_firsts, .ref rA_seconds])), (mA, .inr (1, [.int m_down, .ref mA_degrees, .ref mA_brown, .int m_core_15, .int m_water_16, .int m_pricked, .int m_thinSpots, .int m_seconds_17, .int m_gone_18, .int m_splitAt_19, .int m_steam_20])), (mA_degrees, .inl (g.2.1 0, 4, .inl m_degrees_21)), (mA_brown, .inl (g.2.1 0, 4, .inl m_brown_22))] := hD
      have E := x_nm_eq E hw_24
      exact RET z_23 (m_core_15, m_water_16, m_seconds_17, m_gone_18, m_splitAt_19, m_steam_20, m_degrees_21, m_brown_22) H locs _ _ (E.symm.trans hO) rfl hP hD hS dX4_simmer_30
    · have E := x_neg E c_12
      refine lv_iconst (v := (-1)) hx hb dX4_simmer_21 (by decide) ?_
      exact RET (-1) (m_core, m_water, m_seconds, m_gone, m_splitAt, m_steam, m_degrees, m_brown) H locs _ _ (E.symm.trans hO) rfl hP hD hS dX4_simmer_22
abbrev rX4_turn : Room := { frames := 1, cells := 0, slots := 0, locals := 22 }
theorem vX4_turn : yX4_turn.cls = RX4 ∧ yX4_turn.cls ≠ "java/lang/invoke/MethodHandle" ∧ yX4_turn.cls ≠ "java/lang/invoke/VarHandle" ∧ (parseMethodDescriptor yX4_turn.desc).map (fun d => d.parameters.length) = some 1 := by decide +kernel
abbrev wX4_turn : List Cond := Cond.code yX4_turn cX4_turn 2 (some .int) :: wsL_law
def F_X4_turn (m_down : Int32) (a1 : Int32) : Int32 × Int32 :=
  x_nm (F_X4_outside a1 1 3) fun z_1 => if z_1 = 0 then x_nm (a1.toNatClampNeg) fun j_7 => x_nm (F_X1_turnBy m_down (nI j_7)) fun m_down_8 => (m_down_8, m_down_8) else ((-1), m_down)
set_option maxHeartbeats 4000000 in
set_option maxRecDepth 100000 in
theorem m_X4_turn (l : Launch) (g : x_G) (tA mA rA dA cA eA jA tA_images tA_kept tA_heats tA_salts tA_crumbsOf mA_degrees mA_brown : Nat) (t_tests : Nat) (t_traced : Int64) (t_dryWeight : Int32) (m_down : Int32) (m_core : Int32) (m_water : Int32) (m_pricked : Int32) (m_thinSpots : Int32) (m_seconds : Int32) (m_gone : Int32) (m_splitAt : Int32) (m_steam : Int32) (a1 : Int32) : x_MetI l yX4_turn wX4_turn rX4_turn g [.ref tA, .int a1] [(tA, .inr (4, [.ref rA, .ref dA, .ref cA, .ref eA, .ref mA, .ref jA, .ref tA_images, .ref tA_kept, .ref tA_heats, .ref tA_salts, .ref tA_crumbsOf, .int (nI t_tests), .long t_traced, .int t_dryWeight])), (mA, .inr (1, [.int m_down, .ref mA_degrees, .ref mA_brown, .int m_core, .int m_water, .int m_pricked, .int m_thinSpots, .int m_seconds, .int m_gone, .int m_splitAt, .int m_steam]))] (fun (r : Int32) (u : Int32) => (r, u) = F_X4_turn m_down a1) (fun u => [(tA, .inr (4, [.ref rA, .ref dA, .ref cA, .ref eA, .ref mA, .ref jA, .ref tA_images, .ref tA_kept, .ref tA_heats, .ref tA_salts, .ref tA_crumbsOf, .int (nI t_tests), .long t_traced, .int t_dryWeight])), (mA, .inr (1, [.int u, .ref mA_degrees, .ref mA_brown, .int m_core, .int m_water, .int m_pricked, .int m_thinSpots, .int m_seconds, .int m_gone, .int m_splitAt, .int m_steam]))]) := by
  refine x_startI (cc := cX4_turn) (maxL := 2) (by decide) rfl (Nat.le_of_ble_eq_true rfl) ?_
  intro p e s m args below meth c Q A ls H locs hx hb hml hown hts hK hX hP hD hS hA hl RET
  have hown : s.vm.findClass RX4 = some m.cls := hown
  have hl : lv_has ls 2 [(0, .ref tA), (1, .int a1)] := hl
  obtain ⟨o_0, hO⟩ : ∃ z, z = F_X4_turn m_down a1 := ⟨_, rfl⟩
  have E := hO
  rw [F_X4_turn.eq_1] at E
  refine lv_iload_n hx hb dX4_turn_0 rfl (lv_at hl 1 rfl) ?_
  refine lv_iconst (v := 1) hx hb dX4_turn_1 (by decide) ?_
  refine lv_iconst (v := 3) hx hb dX4_turn_2 (by decide) ?_
  refine x_callS0 ⟨hx, hb, hml, hown, hts⟩ hK hX hP hD hS hA (m_X4_outside l g a1 1 3) (va_cwS 3 hts (x_gS kw_115 kw_116 kw_2 kw_117) rfl rfl rfl vX4_outsideS ⟨Nat.le_of_ble_eq_true rfl, Nat.le_of_ble_eq_true rfl⟩) rfl hl.1 rfl (Nat.le_of_ble_eq_true rfl) dX4_turn_3 ⟨Nat.zero_le _, Nat.zero_le _⟩ (fun z_1 _ H locs hw_2 hP hD hS => ?_)
  obtain ⟨hw_2, b_3⟩ := hw_2
  have E := x_nm_eq E hw_2
  refine lv_if_eq (tgt := 11) hx hb dX4_turn_6 (by decide) (fun c_5 => ?_) (fun c_5 => ?_)
  · have E := x_pos E c_5
    obtain ⟨j_7, hj⟩ : ∃ z, z = (a1).toNatClampNeg := ⟨_, rfl⟩
    have r_6_0 := (x_outs (lo := 1) (hi := 3) (by omega) (by omega) (hw_2.symm.trans c_5))
    rw [← hj] at r_6_0
    obtain ⟨r_6_0_a, r_6_0_b, e_6_0⟩ := r_6_0
    have E := x_nm_eq E hj
    have hl : lv_has ls 2 [(0, .ref tA), (1, .int (nI j_7))] := by rw [e_6_0] at hl; exact hl
    refine lv_aload_n hx hb dX4_turn_11 rfl (lv_at hl 0 rfl) ?_
    refine va_get (ci := 4) (v := .ref mA) (C := RX4) (T := TX4) (N := 14) hx hb hts inlX4 hown hK.1 hP 0 rfl rfl 4 (by decide) (hts _ kw_26) (fun _ h9 => h9) rfl dX4_turn_12 ?_
    refine lv_iload_n hx hb dX4_turn_15 rfl (lv_at hl 1 rfl) ?_
    refine x_callVv (w2 := fun u => [(tA, .inr (4, [.ref rA, .ref dA, .ref cA, .ref eA, .ref mA, .ref jA, .ref tA_images, .ref tA_kept, .ref tA_heats, .ref tA_salts, .ref tA_crumbsOf, .int (nI t_tests), .long t_traced, .int t_dryWeight])), (mA, .inr (1, [.int u, .ref mA_degrees, .ref mA_brown, .int m_core, .int m_water, .int m_pricked, .int m_thinSpots, .int m_seconds, .int m_gone, .int m_splitAt, .int m_steam]))]) (wr := [(tA, .inr (4, [.ref rA, .ref dA, .ref cA, .ref eA, .ref mA, .ref jA, .ref tA_images, .ref tA_kept, .ref tA_heats, .ref tA_salts, .ref tA_crumbsOf, .int (nI t_tests), .long t_traced, .int t_dryWeight]))]) [1] [0] [0, 1] 1 1 ⟨hx, hb, hml, hown, hts⟩ hK hX hP hD hS hA (m_X1_turnBy l g mA mA_degrees mA_brown m_down m_core m_water m_pricked m_thinSpots m_seconds m_gone m_splitAt m_steam (nI j_7)) (cwV 1 hts (x_gV kw_475 kw_476 kw_477 kw_25 kw_478) rfl rfl rfl vX1_turnBy ⟨Nat.le_of_ble_eq_true rfl, Nat.le_of_ble_eq_true rfl⟩) rfl rfl rfl rfl rfl rfl rfl (by decide) (fun _ => rfl) rfl rfl hl.1 rfl (Nat.le_of_ble_eq_true rfl) dX4_turn_16 ⟨Nat.zero_le _, Nat.zero_le _⟩ (fun m_down_8 H locs hw_9 hP hD hS => ?_)
    have hP : va_P g.1 vwCl [(tA, .inr (4, [.ref rA, .ref dA, .ref cA, .ref eA, .ref mA, .ref jA, .ref tA_images, .ref tA_kept, .ref tA_heats, .ref tA_salts, .ref tA_crumbsOf, .int (nI t_tests), .long t_traced, .int t_dryWeight])), (mA, .inr (1, [.int m_down_8, .ref mA_degrees, .ref mA_brown, .int m_core, .int m_water, .int m_pricked, .int m_thinSpots, .int m_seconds, .int m_gone, .int m_splitAt, .int m_steam]))] H := hP
    have hD : va_D A [(tA, .inr (4, [.ref rA, .ref dA, .ref cA, .ref eA, .ref mA, .ref jA, .ref tA_images, .ref tA_kept, .ref tA_heats, .ref tA_salts, .ref tA_crumbsOf, .int (nI t_tests), .long t_traced, .int t_dryWeight])), (mA, .inr (1, [.int m_down_8, .ref mA_degrees, .ref mA_brown, .int m_core, .int m_water, .int m_pricked, .int m_thinSpots, .int m_seconds, .int m_gone, .int m_splitAt, .int m_steam]))] := hD
    have E := x_nm_eq E hw_9
    refine lv_aload_n hx hb dX4_turn_19 rfl (lv_at hl 0 rfl) ?_
    refine va_get (ci := 4) (v := .ref mA) (C := RX4) (T := TX4) (N := 14) hx hb hts inlX4 hown hK.1 hP 0 rfl rfl 4 (by decide) (hts _ kw_26) (fun _ h9 => h9) rfl dX4_turn_20 ?_
    refine va_get (ci := 1) (v := .int m_down_8) (C := RX1) (T := TX1) (N := 11) hx hb hts inlX1 hown hK.1 hP 1 rfl rfl 0 (by decide) (hts _ kw_474) (fun _ h9 => h9) rfl dX4_turn_23 ?_
    exact RET m_down_8 m_down_8 H locs _ _ (E.symm.trans hO) rfl hP hD hS dX4_turn_26
  · have E := x_neg E c_5
    refine lv_iconst (v := (-1)) hx hb dX4_turn_9 (by decide) ?_
    exact RET (-1) m_down H locs _ _ (E.symm.trans hO) rfl hP hD hS dX4_turn_10
abbrev rX4_prick : Room := { frames := 2, cells := 0, slots := 0, locals := 42 }
theorem vX4_prick : yX4_prick.cls = RX4 ∧ yX4_prick.cls ≠ "java/lang/invoke/MethodHandle" ∧ yX4_prick.cls ≠ "java/lang/invoke/VarHandle" ∧ (parseMethodDescriptor yX4_prick.desc).map (fun d => d.parameters.length) = some 1 := by decide +kernel
abbrev wX4_prick : List Cond := Cond.code yX4_prick cX4_prick 2 (some .int) :: wsL_law
def F_X4_prick (m_pricked : Int32) (a1 : Int32) : Int32 × Int32 :=
  x_nm (F_X4_outside a1 1 9) fun z_1 => if z_1 = 0 then x_nm (a1.toNatClampNeg) fun j_7 => x_nm (F_X1_prickBy m_pricked (nI j_7)) fun m_pricked_8 => (m_pricked_8, m_pricked_8) else ((-1), m_pricked)
set_option maxHeartbeats 4000000 in
set_option maxRecDepth 100000 in
theorem m_X4_prick (l : Launch) (g : x_G) (tA mA rA dA cA eA jA tA_images tA_kept tA_heats tA_salts tA_crumbsOf mA_degrees mA_brown : Nat) (t_tests : Nat) (t_traced : Int64) (t_dryWeight : Int32) (m_down : Int32) (m_core : Int32) (m_water : Int32) (m_pricked : Int32) (m_thinSpots : Int32) (m_seconds : Int32) (m_gone : Int32) (m_splitAt : Int32) (m_steam : Int32) (a1 : Int32) : x_MetI l yX4_prick wX4_prick rX4_prick g [.ref tA, .int a1] [(tA, .inr (4, [.ref rA, .ref dA, .ref cA, .ref eA, .ref mA, .ref jA, .ref tA_images, .ref tA_kept, .ref tA_heats, .ref tA_salts, .ref tA_crumbsOf, .int (nI t_tests), .long t_traced, .int t_dryWeight])), (mA, .inr (1, [.int m_down, .ref mA_degrees, .ref mA_brown, .int m_core, .int m_water, .int m_pricked, .int m_thinSpots, .int m_seconds, .int m_gone, .int m_splitAt, .int m_steam]))] (fun (r : Int32) (u : Int32) => (r, u) = F_X4_prick m_pricked a1) (fun u => [(tA, .inr (4, [.ref rA, .ref dA, .ref cA, .ref eA, .ref mA, .ref jA, .ref tA_images, .ref tA_kept, .ref tA_heats, .ref tA_salts, .ref tA_crumbsOf, .int (nI t_tests), .long t_traced, .int t_dryWeight])), (mA, .inr (1, [.int m_down, .ref mA_degrees, .ref mA_brown, .int m_core, .int m_water, .int u, .int m_thinSpots, .int m_seconds, .int m_gone, .int m_splitAt, .int m_steam]))]) := by
  refine x_startI (cc := cX4_prick) (maxL := 2) (by decide) rfl (Nat.le_of_ble_eq_true rfl) ?_
  intro p e s m args below meth c Q A ls H locs hx hb hml hown hts hK hX hP hD hS hA hl RET
  have hown : s.vm.findClass RX4 = some m.cls := hown
  have hl : lv_has ls 2 [(0, .ref tA), (1, .int a1)] := hl
  obtain ⟨o_0, hO⟩ : ∃ z, z = F_X4_prick m_pricked a1 := ⟨_, rfl⟩
  have E := hO
  rw [F_X4_prick.eq_1] at E
  refine lv_iload_n hx hb dX4_prick_0 rfl (lv_at hl 1 rfl) ?_
  refine lv_iconst (v := 1) hx hb dX4_prick_1 (by decide) ?_
  refine lv_bipush (v := 9) hx hb dX4_prick_2 (by decide) ?_
  refine x_callS0 ⟨hx, hb, hml, hown, hts⟩ hK hX hP hD hS hA (m_X4_outside l g a1 1 9) (va_cwS 3 hts (x_gS kw_115 kw_116 kw_2 kw_117) rfl rfl rfl vX4_outsideS ⟨Nat.le_of_ble_eq_true rfl, Nat.le_of_ble_eq_true rfl⟩) rfl hl.1 rfl (Nat.le_of_ble_eq_true rfl) dX4_prick_4 ⟨Nat.zero_le _, Nat.zero_le _⟩ (fun z_1 _ H locs hw_2 hP hD hS => ?_)
  obtain ⟨hw_2, b_3⟩ := hw_2
  have E := x_nm_eq E hw_2
  refine lv_if_eq (tgt := 12) hx hb dX4_prick_7 (by decide) (fun c_5 => ?_) (fun c_5 => ?_)
  · have E := x_pos E c_5
    obtain ⟨j_7, hj⟩ : ∃ z, z = (a1).toNatClampNeg := ⟨_, rfl⟩
    have r_6_0 := (x_outs (lo := 1) (hi := 9) (by omega) (by omega) (hw_2.symm.trans c_5))
    rw [← hj] at r_6_0
    obtain ⟨r_6_0_a, r_6_0_b, e_6_0⟩ := r_6_0
    have E := x_nm_eq E hj
    have hl : lv_has ls 2 [(0, .ref tA), (1, .int (nI j_7))] := by rw [e_6_0] at hl; exact hl
    refine lv_aload_n hx hb dX4_prick_12 rfl (lv_at hl 0 rfl) ?_
    refine va_get (ci := 4) (v := .ref mA) (C := RX4) (T := TX4) (N := 14) hx hb hts inlX4 hown hK.1 hP 0 rfl rfl 4 (by decide) (hts _ kw_26) (fun _ h9 => h9) rfl dX4_prick_13 ?_
    refine lv_iload_n hx hb dX4_prick_16 rfl (lv_at hl 1 rfl) ?_
    refine x_callVv (w2 := fun u => [(tA, .inr (4, [.ref rA, .ref dA, .ref cA, .ref eA, .ref mA, .ref jA, .ref tA_images, .ref tA_kept, .ref tA_heats, .ref tA_salts, .ref tA_crumbsOf, .int (nI t_tests), .long t_traced, .int t_dryWeight])), (mA, .inr (1, [.int m_down, .ref mA_degrees, .ref mA_brown, .int m_core, .int m_water, .int u, .int m_thinSpots, .int m_seconds, .int m_gone, .int m_splitAt, .int m_steam]))]) (wr := [(tA, .inr (4, [.ref rA, .ref dA, .ref cA, .ref eA, .ref mA, .ref jA, .ref tA_images, .ref tA_kept, .ref tA_heats, .ref tA_salts, .ref tA_crumbsOf, .int (nI t_tests), .long t_traced, .int t_dryWeight]))]) [1] [0] [0, 1] 1 1 ⟨hx, hb, hml, hown, hts⟩ hK hX hP hD hS hA (m_X1_prickBy l g mA mA_degrees mA_brown m_down m_core m_water m_pricked m_thinSpots m_seconds m_gone m_splitAt m_steam (nI j_7)) (cwV 1 hts (x_gV kw_493 kw_494 kw_495 kw_25 kw_496) rfl rfl rfl vX1_prickBy ⟨Nat.le_of_ble_eq_true rfl, Nat.le_of_ble_eq_true rfl⟩) rfl rfl rfl rfl rfl rfl rfl (by decide) (fun _ => rfl) rfl rfl hl.1 rfl (Nat.le_of_ble_eq_true rfl) dX4_prick_17 ⟨Nat.zero_le _, Nat.zero_le _⟩ (fun m_pricked_8 H locs hw_9 hP hD hS => ?_)
    have hP : va_P g.1 vwCl [(tA, .inr (4, [.ref rA, .ref dA, .ref cA, .ref eA, .ref mA, .ref jA, .ref tA_images, .ref tA_kept, .ref tA_heats, .ref tA_salts, .ref tA_crumbsOf, .int (nI t_tests), .long t_traced, .int t_dryWeight])), (mA, .inr (1, [.int m_down, .ref mA_degrees, .ref mA_brown, .int m_core, .int m_water, .int m_pricked_8, .int m_thinSpots, .int m_seconds, .int m_gone, .int m_splitAt, .int m_steam]))] H := hP
    have hD : va_D A [(tA, .inr (4, [.ref rA, .ref dA, .ref cA, .ref eA, .ref mA, .ref jA, .ref tA_images, .ref tA_kept, .ref tA_heats, .ref tA_salts, .ref tA_crumbsOf, .int (nI t_tests), .long t_traced, .int t_dryWeight])), (mA, .inr (1, [.int m_down, .ref mA_degrees, .ref mA_brown, .int m_core, .int m_water, .int m_pricked_8, .int m_thinSpots, .int m_seconds, .int m_gone, .int m_splitAt, .int m_steam]))] := hD
    have E := x_nm_eq E hw_9
    refine lv_aload_n hx hb dX4_prick_20 rfl (lv_at hl 0 rfl) ?_
    refine va_get (ci := 4) (v := .ref mA) (C := RX4) (T := TX4) (N := 14) hx hb hts inlX4 hown hK.1 hP 0 rfl rfl 4 (by decide) (hts _ kw_26) (fun _ h9 => h9) rfl dX4_prick_21 ?_
    refine va_get (ci := 1) (v := .int m_pricked_8) (C := RX1) (T := TX1) (N := 11) hx hb hts inlX1 hown hK.1 hP 1 rfl rfl 5 (by decide) (hts _ kw_492) (fun _ h9 => h9) rfl dX4_prick_24 ?_
    exact RET m_pricked_8 m_pricked_8 H locs _ _ (E.symm.trans hO) rfl hP hD hS dX4_prick_27
  · have E := x_neg E c_5
    refine lv_iconst (v := (-1)) hx hb dX4_prick_10 (by decide) ?_
    exact RET (-1) m_pricked H locs _ _ (E.symm.trans hO) rfl hP hD hS dX4_prick_11
abbrev rX4_spots : Room := { frames := 1, cells := 0, slots := 0, locals := 22 }
theorem vX4_spots : yX4_spots.cls = RX4 ∧ yX4_spots.cls ≠ "java/lang/invoke/MethodHandle" ∧ yX4_spots.cls ≠ "java/lang/invoke/VarHandle" ∧ (parseMethodDescriptor yX4_spots.desc).map (fun d => d.parameters.length) = some 1 := by decide +kernel
abbrev wX4_spots : List Cond := Cond.code yX4_spots cX4_spots 3 (some .int) :: wsL_law
def F_X4_spots (m_thinSpots : Int32) (a1 : Int32) : Int32 × Int32 :=
  x_nm (F_X4_outside a1 0 15) fun z_1 => if z_1 = 0 then x_nm (a1.toNatClampNeg) fun j_7 => (m_thinSpots, nI j_7) else ((-1), m_thinSpots)
set_option maxHeartbeats 4000000 in
set_option maxRecDepth 100000 in
theorem m_X4_spots (l : Launch) (g : x_G) (tA mA rA dA cA eA jA tA_images tA_kept tA_heats tA_salts tA_crumbsOf mA_degrees mA_brown : Nat) (t_tests : Nat) (t_traced : Int64) (t_dryWeight : Int32) (m_down : Int32) (m_core : Int32) (m_water : Int32) (m_pricked : Int32) (m_thinSpots : Int32) (m_seconds : Int32) (m_gone : Int32) (m_splitAt : Int32) (m_steam : Int32) (a1 : Int32) : x_MetI l yX4_spots wX4_spots rX4_spots g [.ref tA, .int a1] [(tA, .inr (4, [.ref rA, .ref dA, .ref cA, .ref eA, .ref mA, .ref jA, .ref tA_images, .ref tA_kept, .ref tA_heats, .ref tA_salts, .ref tA_crumbsOf, .int (nI t_tests), .long t_traced, .int t_dryWeight])), (mA, .inr (1, [.int m_down, .ref mA_degrees, .ref mA_brown, .int m_core, .int m_water, .int m_pricked, .int m_thinSpots, .int m_seconds, .int m_gone, .int m_splitAt, .int m_steam]))] (fun (r : Int32) (u : Int32) => (r, u) = F_X4_spots m_thinSpots a1) (fun u => [(tA, .inr (4, [.ref rA, .ref dA, .ref cA, .ref eA, .ref mA, .ref jA, .ref tA_images, .ref tA_kept, .ref tA_heats, .ref tA_salts, .ref tA_crumbsOf, .int (nI t_tests), .long t_traced, .int t_dryWeight])), (mA, .inr (1, [.int m_down, .ref mA_degrees, .ref mA_brown, .int m_core, .int m_water, .int m_pricked, .int u, .int m_seconds, .int m_gone, .int m_splitAt, .int m_steam]))]) := by
  refine x_startI (cc := cX4_spots) (maxL := 3) (by decide) rfl (Nat.le_of_ble_eq_true rfl) ?_
  intro p e s m args below meth c Q A ls H locs hx hb hml hown hts hK hX hP hD hS hA hl RET
  have hown : s.vm.findClass RX4 = some m.cls := hown
  have hl : lv_has ls 3 [(0, .ref tA), (1, .int a1)] := hl
  obtain ⟨o_0, hO⟩ : ∃ z, z = F_X4_spots m_thinSpots a1 := ⟨_, rfl⟩
  have E := hO
  rw [F_X4_spots.eq_1] at E
  refine lv_iload_n hx hb dX4_spots_0 rfl (lv_at hl 1 rfl) ?_
  refine lv_iconst (v := 0) hx hb dX4_spots_1 (by decide) ?_
  refine lv_bipush (v := 15) hx hb dX4_spots_2 (by decide) ?_
  refine x_callS0 ⟨hx, hb, hml, hown, hts⟩ hK hX hP hD hS hA (m_X4_outside l g a1 0 15) (va_cwS 3 hts (x_gS kw_115 kw_116 kw_2 kw_117) rfl rfl rfl vX4_outsideS ⟨Nat.le_of_ble_eq_true rfl, Nat.le_of_ble_eq_true rfl⟩) rfl hl.1 rfl (Nat.le_of_ble_eq_true rfl) dX4_spots_4 ⟨Nat.zero_le _, Nat.zero_le _⟩ (fun z_1 _ H locs hw_2 hP hD hS => ?_)
  obtain ⟨hw_2, b_3⟩ := hw_2
  have E := x_nm_eq E hw_2
  refine lv_if_eq (tgt := 12) hx hb dX4_spots_7 (by decide) (fun c_5 => ?_) (fun c_5 => ?_)
  · have E := x_pos E c_5
    obtain ⟨j_7, hj⟩ : ∃ z, z = (a1).toNatClampNeg := ⟨_, rfl⟩
    have r_6_0 := (x_outs (lo := 0) (hi := 15) (by omega) (by omega) (hw_2.symm.trans c_5))
    rw [← hj] at r_6_0
    obtain ⟨r_6_0_a, r_6_0_b, e_6_0⟩ := r_6_0
    have E := x_nm_eq E hj
    have hl : lv_has ls 3 [(0, .ref tA), (1, .int (nI j_7))] := by rw [e_6_0] at hl; exact hl
    refine lv_aload_n hx hb dX4_spots_12 rfl (lv_at hl 0 rfl) ?_
    refine va_get (ci := 4) (v := .ref mA) (C := RX4) (T := TX4) (N := 14) hx hb hts inlX4 hown hK.1 hP 0 rfl rfl 4 (by decide) (hts _ kw_26) (fun _ h9 => h9) rfl dX4_spots_13 ?_
    refine va_get (ci := 1) (v := .int m_thinSpots) (C := RX1) (T := TX1) (N := 11) hx hb hts inlX1 hown hK.1 hP 1 rfl rfl 6 (by decide) (hts _ kw_510) (fun _ h9 => h9) rfl dX4_spots_16 ?_
    refine lv_istore_n (lv' := [(2, .int m_thinSpots), (0, .ref tA), (1, .int (nI j_7))]) hx hb dX4_spots_19 rfl hl (by decide) rfl (fun ls hl => ?_)
    refine lv_aload_n hx hb dX4_spots_20 rfl (lv_at hl 1 rfl) ?_
    refine va_get (ci := 4) (v := .ref mA) (C := RX4) (T := TX4) (N := 14) hx hb hts inlX4 hown hK.1 hP 0 rfl rfl 4 (by decide) (hts _ kw_26) (fun _ h9 => h9) rfl dX4_spots_21 ?_
    refine lv_iload_n hx hb dX4_spots_24 rfl (lv_at hl 2 rfl) ?_
    refine va_put (ci := 1) (v := .int (nI j_7)) (ty := .int) (C := RX1) (T := TX1) (N := 11) hx hb hts inlX1 tyX1 tyX1_ok nmX1 hown hK.1 hP hD hS 1 rfl rfl 6 (by decide) (hts _ kw_510) (fun _ h9 => h9) rfl (tyX1_ok 6 (by decide)) rfl rfl (Nat.le_of_ble_eq_true rfl) dX4_spots_25 (fun H locs hP hD hS => ?_)
    have hP : va_P g.1 vwCl [(tA, .inr (4, [.ref rA, .ref dA, .ref cA, .ref eA, .ref mA, .ref jA, .ref tA_images, .ref tA_kept, .ref tA_heats, .ref tA_salts, .ref tA_crumbsOf, .int (nI t_tests), .long t_traced, .int t_dryWeight])), (mA, .inr (1, [.int m_down, .ref mA_degrees, .ref mA_brown, .int m_core, .int m_water, .int m_pricked, .int (nI j_7), .int m_seconds, .int m_gone, .int m_splitAt, .int m_steam]))] H := hP
    have hD : va_D A [(tA, .inr (4, [.ref rA, .ref dA, .ref cA, .ref eA, .ref mA, .ref jA, .ref tA_images, .ref tA_kept, .ref tA_heats, .ref tA_salts, .ref tA_crumbsOf, .int (nI t_tests), .long t_traced, .int t_dryWeight])), (mA, .inr (1, [.int m_down, .ref mA_degrees, .ref mA_brown, .int m_core, .int m_water, .int m_pricked, .int (nI j_7), .int m_seconds, .int m_gone, .int m_splitAt, .int m_steam]))] := hD
    refine lv_iload_n hx hb dX4_spots_28 rfl (lv_at hl 0 rfl) ?_
    exact RET m_thinSpots (nI j_7) H locs _ _ (E.symm.trans hO) rfl hP hD hS dX4_spots_29
  · have E := x_neg E c_5
    refine lv_iconst (v := (-1)) hx hb dX4_spots_10 (by decide) ?_
    exact RET (-1) m_thinSpots H locs _ _ (E.symm.trans hO) rfl hP hD hS dX4_spots_11
abbrev rX4_face : Room := { frames := 2, cells := 0, slots := 0, locals := 45 }
theorem vX4_face : yX4_face.cls = RX4 ∧ yX4_face.cls ≠ "java/lang/invoke/MethodHandle" ∧ yX4_face.cls ≠ "java/lang/invoke/VarHandle" ∧ (parseMethodDescriptor yX4_face.desc).map (fun d => d.parameters.length) = some 2 := by decide +kernel
abbrev wX4_face : List Cond := Cond.code yX4_face cX4_face 3 (some .int) :: wsL_law
def F_X4_face (r_radius : Int32) (r_skin : Int32) (r_filling : Int32) (r_thin : Int32) (r_bentFace : Int32) (r_bentBy : Int32) (m_degrees : Nat → Int32) (m_brown : Nat → Int32) (m_core : Int32) (m_pricked : Int32) (m_thinSpots : Int32) (m_gone : Int32) (m_steam : Int32) (a1 : Int32) (a2 : Int32) : Int32 :=
  x_nm (F_X4_outside a1 0 3) fun z_1 => if z_1 = 0 then x_nm (a1.toNatClampNeg) fun j_7 => if a2 = 0 then m_degrees j_7 else if a2 = 1 then m_brown j_7 else if a2 = 2 then x_nm (F_X1_strengthAt m_degrees m_thinSpots j_7 r_skin r_thin) fun z_11 => z_11 else if a2 = 3 then x_nm (F_X1_pressIn m_core m_pricked m_gone m_steam r_filling) fun z_15 => x_nm (F_X1_pullRound (nI j_7) r_radius r_bentFace r_bentBy z_15) fun z_18 => z_18 else (-1) else (-1)
set_option maxHeartbeats 4000000 in
set_option maxRecDepth 100000 in
theorem m_X4_face (l : Launch) (g : x_G) (tA rA mA mA_degrees mA_brown dA cA eA jA tA_images tA_kept tA_heats tA_salts tA_crumbsOf rA_kinds rA_firsts rA_seconds : Nat) (t_tests : Nat) (t_traced : Int64) (t_dryWeight : Int32) (r_radius : Int32) (r_skin : Int32) (r_filling : Int32) (r_water : Int32) (r_ends : Int32) (r_thin : Int32) (r_chance : Int32) (r_bentFace : Int32) (r_bentBy : Int32) (r_doings : Nat) (m_down : Int32) (m_core : Int32) (m_water : Int32) (m_pricked : Int32) (m_thinSpots : Int32) (m_seconds : Int32) (m_gone : Int32) (m_splitAt : Int32) (m_steam : Int32) (m_degrees : Nat → Int32) (m_brown : Nat → Int32) (a1 : Int32) (a2 : Int32) : x_MetI l yX4_face wX4_face rX4_face g [.ref tA, .int a1, .int a2] [(tA, .inr (4, [.ref rA, .ref dA, .ref cA, .ref eA, .ref mA, .ref jA, .ref tA_images, .ref tA_kept, .ref tA_heats, .ref tA_salts, .ref tA_crumbsOf, .int (nI t_tests), .long t_traced, .int t_dryWeight])), (rA, .inr (3, [.int r_radius, .int r_skin, .int r_filling, .int r_water, .int r_ends, .int r_thin, .int r_chance, .int r_bentFace, .int r_bentBy, .int (nI r_doings), .ref rA_kinds, .ref rA_firsts, .ref rA_seconds])), (mA, .inr (1, [.int m_down, .ref mA_degrees, .ref mA_brown, .int m_core, .int m_water, .int m_pricked, .int m_thinSpots, .int m_seconds, .int m_gone, .int m_splitAt, .int m_steam])), (mA_degrees, .inl (g.2.1 0, 4, .inl m_degrees)), (mA_brown, .inl (g.2.1 0, 4, .inl m_brown))] (fun (r : Int32) (u : Unit) => r = F_X4_face r_radius r_skin r_filling r_thin r_bentFace r_bentBy m_degrees m_brown m_core m_pricked m_thinSpots m_gone m_steam a1 a2) (fun _ => [(tA, .inr (4, [.ref rA, .ref dA, .ref cA, .ref eA, .ref mA, .ref jA, .ref tA_images, .ref tA_kept, .ref tA_heats, .ref tA_salts, .ref tA_crumbsOf, .int (nI t_tests), .long t_traced, .int t_dryWeight])), (rA, .inr (3, [.int r_radius, .int r_skin, .int r_filling, .int r_water, .int r_ends, .int r_thin, .int r_chance, .int r_bentFace, .int r_bentBy, .int (nI r_doings), .ref rA_kinds, .ref rA_firsts, .ref rA_seconds])), (mA, .inr (1, [.int m_down, .ref mA_degrees, .ref mA_brown, .int m_core, .int m_water, .int m_pricked, .int m_thinSpots, .int m_seconds, .int m_gone, .int m_splitAt, .int m_steam])), (mA_degrees, .inl (g.2.1 0, 4, .inl m_degrees)), (mA_brown, .inl (g.2.1 0, 4, .inl m_brown))]) := by
  refine x_startI (cc := cX4_face) (maxL := 3) (by decide) rfl (Nat.le_of_ble_eq_true rfl) ?_
  intro p e s m args below meth c Q A ls H locs hx hb hml hown hts hK hX hP hD hS hA hl RET
  have hown : s.vm.findClass RX4 = some m.cls := hown
  have hl : lv_has ls 3 [(0, .ref tA), (1, .int a1), (2, .int a2)] := hl
  obtain ⟨o_0, hO⟩ : ∃ z, z = F_X4_face r_radius r_skin r_filling r_thin r_bentFace r_bentBy m_degrees m_brown m_core m_pricked m_thinSpots m_gone m_steam a1 a2 := ⟨_, rfl⟩
  have E := hO
  rw [F_X4_face.eq_1] at E
  refine lv_iload_n hx hb dX4_face_0 rfl (lv_at hl 1 rfl) ?_
  refine lv_iconst (v := 0) hx hb dX4_face_1 (by decide) ?_
  refine lv_iconst (v := 3) hx hb dX4_face_2 (by decide) ?_
  refine x_callS0 ⟨hx, hb, hml, hown, hts⟩ hK hX hP hD hS hA (m_X4_outside l g a1 0 3) (va_cwS 3 hts (x_gS kw_115 kw_116 kw_2 kw_117) rfl rfl rfl vX4_outsideS ⟨Nat.le_of_ble_eq_true rfl, Nat.le_of_ble_eq_true rfl⟩) rfl hl.1 rfl (Nat.le_of_ble_eq_true rfl) dX4_face_3 ⟨Nat.zero_le _, Nat.zero_le _⟩ (fun z_1 _ H locs hw_2 hP hD hS => ?_)
  obtain ⟨hw_2, b_3⟩ := hw_2
  have E := x_nm_eq E hw_2
  refine lv_if_eq (tgt := 11) hx hb dX4_face_6 (by decide) (fun c_5 => ?_) (fun c_5 => ?_)
  · have E := x_pos E c_5
    obtain ⟨j_7, hj⟩ : ∃ z, z = (a1).toNatClampNeg := ⟨_, rfl⟩
    have r_6_0 := (x_outs (lo := 0) (hi := 3) (by omega) (by omega) (hw_2.symm.trans c_5))
    rw [← hj] at r_6_0
    obtain ⟨r_6_0_a, r_6_0_b, e_6_0⟩ := r_6_0
    have E := x_nm_eq E hj
    have hl : lv_has ls 3 [(0, .ref tA), (1, .int (nI j_7)), (2, .int a2)] := by rw [e_6_0] at hl; exact hl
    refine lv_iload_n hx hb dX4_face_11 rfl (lv_at hl 2 rfl) ?_
    by_cases c_8 : a2 = 0
    · have E := x_pos E c_8
      refine lv_tableIn (off := 32) (tgt := 44) hx hb dX4_face_12 (by rw [c_8]; decide) (by rw [c_8]; decide) (by rw [c_8]; decide) (by decide) ?_
      refine lv_aload_n hx hb dX4_face_44 rfl (lv_at hl 0 rfl) ?_
      refine va_get (ci := 4) (v := .ref mA) (C := RX4) (T := TX4) (N := 14) hx hb hts inlX4 hown hK.1 hP 0 rfl rfl 4 (by decide) (hts _ kw_26) (fun _ h9 => h9) rfl dX4_face_45 ?_
      refine va_get (ci := 1) (v := .ref mA_degrees) (C := RX1) (T := TX1) (N := 11) hx hb hts inlX1 hown hK.1 hP 2 rfl rfl 1 (by decide) (hts _ kw_520) (fun _ h9 => h9) rfl dX4_face_48 ?_
      refine lv_iload_n hx hb dX4_face_51 rfl (lv_at hl 1 rfl) ?_
      refine x_ialdN hx hb hK hP 3 j_7 rfl (by omega) (by decide) dX4_face_52 ?_
      exact RET (m_degrees j_7) () H locs _ _ (E.symm.trans hO) rfl hP hD hS dX4_face_53
    have E := x_neg E c_8
    by_cases c_9 : a2 = 1
    · have E := x_pos E c_9
      refine lv_tableIn (off := 42) (tgt := 54) hx hb dX4_face_12 (by rw [c_9]; decide) (by rw [c_9]; decide) (by rw [c_9]; decide) (by decide) ?_
      refine lv_aload_n hx hb dX4_face_54 rfl (lv_at hl 0 rfl) ?_
      refine va_get (ci := 4) (v := .ref mA) (C := RX4) (T := TX4) (N := 14) hx hb hts inlX4 hown hK.1 hP 0 rfl rfl 4 (by decide) (hts _ kw_26) (fun _ h9 => h9) rfl dX4_face_55 ?_
      refine va_get (ci := 1) (v := .ref mA_brown) (C := RX1) (T := TX1) (N := 11) hx hb hts inlX1 hown hK.1 hP 2 rfl rfl 2 (by decide) (hts _ kw_521) (fun _ h9 => h9) rfl dX4_face_58 ?_
      refine lv_iload_n hx hb dX4_face_61 rfl (lv_at hl 1 rfl) ?_
      refine x_ialdN hx hb hK hP 4 j_7 rfl (by omega) (by decide) dX4_face_62 ?_
      exact RET (m_brown j_7) () H locs _ _ (E.symm.trans hO) rfl hP hD hS dX4_face_63
    have E := x_neg E c_9
    by_cases c_10 : a2 = 2
    · have E := x_pos E c_10
      refine lv_tableIn (off := 52) (tgt := 64) hx hb dX4_face_12 (by rw [c_10]; decide) (by rw [c_10]; decide) (by rw [c_10]; decide) (by decide) ?_
      refine lv_aload_n hx hb dX4_face_64 rfl (lv_at hl 0 rfl) ?_
      refine va_get (ci := 4) (v := .ref mA) (C := RX4) (T := TX4) (N := 14) hx hb hts inlX4 hown hK.1 hP 0 rfl rfl 4 (by decide) (hts _ kw_26) (fun _ h9 => h9) rfl dX4_face_65 ?_
      refine lv_iload_n hx hb dX4_face_68 rfl (lv_at hl 1 rfl) ?_
      refine lv_aload_n hx hb dX4_face_69 rfl (lv_at hl 0 rfl) ?_
      refine va_get (ci := 4) (v := .ref rA) (C := RX4) (T := TX4) (N := 14) hx hb hts inlX4 hown hK.1 hP 0 rfl rfl 0 (by decide) (hts _ kw_16) (fun _ h9 => h9) rfl dX4_face_70 ?_
      refine x_callVi (w2 := fun u => [(tA, .inr (4, [.ref rA, .ref dA, .ref cA, .ref eA, .ref mA, .ref jA, .ref tA_images, .ref tA_kept, .ref tA_heats, .ref tA_salts, .ref tA_crumbsOf, .int (nI t_tests), .long t_traced, .int t_dryWeight])), (rA, .inr (3, [.int r_radius, .int r_skin, .int r_filling, .int r_water, .int r_ends, .int r_thin, .int r_chance, .int r_bentFace, .int r_bentBy, .int (nI r_doings), .ref rA_kinds, .ref rA_firsts, .ref rA_seconds])), (mA, .inr (1, [.int m_down, .ref mA_degrees, .ref mA_brown, .int m_core, .int m_water, .int m_pricked, .int m_thinSpots, .int m_seconds, .int m_gone, .int m_splitAt, .int m_steam])), (mA_degrees, .inl (g.2.1 0, 4, .inl m_degrees)), (mA_brown, .inl (g.2.1 0, 4, .inl m_brown))]) (wr := [(tA, .inr (4, [.ref rA, .ref dA, .ref cA, .ref eA, .ref mA, .ref jA, .ref tA_images, .ref tA_kept, .ref tA_heats, .ref tA_salts, .ref tA_crumbsOf, .int (nI t_tests), .long t_traced, .int t_dryWeight])), (mA_brown, .inl (g.2.1 0, 4, .inl m_brown))]) [2, 3, 1] [0, 4] [0, 4, 2, 3, 1] 2 1 ⟨hx, hb, hml, hown, hts⟩ hK hX hP hD hS hA (m_X1_strengthAt l g mA mA_degrees rA mA_brown rA_kinds rA_firsts rA_seconds m_down m_core m_water m_pricked m_thinSpots m_seconds m_gone m_splitAt m_steam m_degrees r_radius r_skin r_filling r_water r_ends r_thin r_chance r_bentFace r_bentBy r_doings j_7 (by first | assumption | omega | exact x_e8 (by assumption) (by assumption))) (cwV 2 hts (x_gV kw_522 kw_430 kw_431 kw_25 kw_432) rfl rfl rfl vX1_strengthAt ⟨Nat.le_of_ble_eq_true rfl, Nat.le_of_ble_eq_true rfl⟩) rfl rfl rfl rfl rfl rfl rfl (by decide) (fun _ => rfl) rfl rfl hl.1 rfl (Nat.le_of_ble_eq_true rfl) dX4_face_73 ⟨Nat.zero_le _, Nat.zero_le _⟩ (fun z_11 _ H locs hw_12 hP hD hS => ?_)
      have E := x_nm_eq E hw_12
      exact RET z_11 () H locs _ _ (E.symm.trans hO) rfl hP hD hS dX4_face_76
    have E := x_neg E c_10
    by_cases c_14 : a2 = 3
    · have E := x_pos E c_14
      refine lv_tableIn (off := 65) (tgt := 77) hx hb dX4_face_12 (by rw [c_14]; decide) (by rw [c_14]; decide) (by rw [c_14]; decide) (by decide) ?_
      refine lv_iload_n hx hb dX4_face_77 rfl (lv_at hl 1 rfl) ?_
      refine lv_aload_n hx hb dX4_face_78 rfl (lv_at hl 0 rfl) ?_
      refine va_get (ci := 4) (v := .ref rA) (C := RX4) (T := TX4) (N := 14) hx hb hts inlX4 hown hK.1 hP 0 rfl rfl 0 (by decide) (hts _ kw_16) (fun _ h9 => h9) rfl dX4_face_79 ?_
      refine lv_aload_n hx hb dX4_face_82 rfl (lv_at hl 0 rfl) ?_
      refine va_get (ci := 4) (v := .ref mA) (C := RX4) (T := TX4) (N := 14) hx hb hts inlX4 hown hK.1 hP 0 rfl rfl 4 (by decide) (hts _ kw_26) (fun _ h9 => h9) rfl dX4_face_83 ?_
      refine lv_aload_n hx hb dX4_face_86 rfl (lv_at hl 0 rfl) ?_
      refine va_get (ci := 4) (v := .ref rA) (C := RX4) (T := TX4) (N := 14) hx hb hts inlX4 hown hK.1 hP 0 rfl rfl 0 (by decide) (hts _ kw_16) (fun _ h9 => h9) rfl dX4_face_87 ?_
      refine x_callVi (w2 := fun u => [(tA, .inr (4, [.ref rA, .ref dA, .ref cA, .ref eA, .ref mA, .ref jA, .ref tA_images, .ref tA_kept, .ref tA_heats, .ref tA_salts, .ref tA_crumbsOf, .int (nI t_tests), .long t_traced, .int t_dryWeight])), (rA, .inr (3, [.int r_radius, .int r_skin, .int r_filling, .int r_water, .int r_ends, .int r_thin, .int r_chance, .int r_bentFace, .int r_bentBy, .int (nI r_doings), .ref rA_kinds, .ref rA_firsts, .ref rA_seconds])), (mA, .inr (1, [.int m_down, .ref mA_degrees, .ref mA_brown, .int m_core, .int m_water, .int m_pricked, .int m_thinSpots, .int m_seconds, .int m_gone, .int m_splitAt, .int m_steam])), (mA_degrees, .inl (g.2.1 0, 4, .inl m_degrees)), (mA_brown, .inl (g.2.1 0, 4, .inl m_brown))]) (wr := [(tA, .inr (4, [.ref rA, .ref dA, .ref cA, .ref eA, .ref mA, .ref jA, .ref tA_images, .ref tA_kept, .ref tA_heats, .ref tA_salts, .ref tA_crumbsOf, .int (nI t_tests), .long t_traced, .int t_dryWeight])), (mA_degrees, .inl (g.2.1 0, 4, .inl m_degrees)), (mA_brown, .inl (g.2.1 0, 4, .inl m_brown))]) [2, 1] [0, 3, 4] [0, 4, 3, 1, 2] 2 1 ⟨hx, hb, hml, hown, hts⟩ hK hX hP hD hS hA (m_X1_pressIn l g mA rA mA_degrees mA_brown rA_kinds rA_firsts rA_seconds m_down m_core m_water m_pricked m_thinSpots m_seconds m_gone m_splitAt m_steam r_radius r_skin r_filling r_water r_ends r_thin r_chance r_bentFace r_bentBy r_doings) (cwV 1 hts (x_gV kw_523 kw_415 kw_416 kw_25 kw_417) rfl rfl rfl vX1_pressIn ⟨Nat.le_of_ble_eq_true rfl, Nat.le_of_ble_eq_true rfl⟩) rfl rfl rfl rfl rfl rfl rfl (by decide) (fun _ => rfl) rfl rfl hl.1 rfl (Nat.le_of_ble_eq_true rfl) dX4_face_90 ⟨Nat.zero_le _, Nat.zero_le _⟩ (fun z_15 _ H locs hw_16 hP hD hS => ?_)
      have E := x_nm_eq E hw_16
      refine x_callSi (w2 := fun u => [(tA, .inr (4, [.ref rA, .ref dA, .ref cA, .ref eA, .ref mA, .ref jA, .ref tA_images, .ref tA_kept, .ref tA_heats, .ref tA_salts, .ref tA_crumbsOf, .int (nI t_tests), .long t_traced, .int t_dryWeight])), (rA, .inr (3, [.int r_radius, .int r_skin, .int r_filling, .int r_water, .int r_ends, .int r_thin, .int r_chance, .int r_bentFace, .int r_bentBy, .int (nI r_doings), .ref rA_kinds, .ref rA_firsts, .ref rA_seconds])), (mA, .inr (1, [.int m_down, .ref mA_degrees, .ref mA_brown, .int m_core, .int m_water, .int m_pricked, .int m_thinSpots, .int m_seconds, .int m_gone, .int m_splitAt, .int m_steam])), (mA_degrees, .inl (g.2.1 0, 4, .inl m_degrees)), (mA_brown, .inl (g.2.1 0, 4, .inl m_brown))]) (wr := [(tA, .inr (4, [.ref rA, .ref dA, .ref cA, .ref eA, .ref mA, .ref jA, .ref tA_images, .ref tA_kept, .ref tA_heats, .ref tA_salts, .ref tA_crumbsOf, .int (nI t_tests), .long t_traced, .int t_dryWeight])), (mA, .inr (1, [.int m_down, .ref mA_degrees, .ref mA_brown, .int m_core, .int m_water, .int m_pricked, .int m_thinSpots, .int m_seconds, .int m_gone, .int m_splitAt, .int m_steam])), (mA_degrees, .inl (g.2.1 0, 4, .inl m_degrees)), (mA_brown, .inl (g.2.1 0, 4, .inl m_brown))]) [1] [0, 2, 3, 4] [0, 4, 1, 2, 3] ⟨hx, hb, hml, hown, hts⟩ hK hX hP hD hS hA (m_X1_pullRound l g rA rA_kinds rA_firsts rA_seconds r_radius r_skin r_filling r_water r_ends r_thin r_chance r_bentFace r_bentBy r_doings (nI j_7) z_15) (va_cwS 3 hts (x_gS kw_524 kw_425 kw_25 kw_426) rfl rfl rfl vX1_pullRoundS ⟨Nat.le_of_ble_eq_true rfl, Nat.le_of_ble_eq_true rfl⟩) rfl rfl rfl rfl (by decide) (fun _ => rfl) rfl rfl hl.1 rfl (Nat.le_of_ble_eq_true rfl) dX4_face_93 ⟨Nat.zero_le _, Nat.zero_le _⟩ (fun z_18 _ H locs hw_19 hP hD hS => ?_)
      have E := x_nm_eq E hw_19
      exact RET z_18 () H locs _ _ (E.symm.trans hO) rfl hP hD hS dX4_face_96
    have E := x_neg E c_14
    refine lv_tableOut (tgt := 97) hx hb dX4_face_12 (x_out 4 (by decide) (fun k hk => by rcases (show k = 0 ∨ k = 1 ∨ k = 2 ∨ k = 3 by omega) with rfl | rfl | rfl | rfl <;> assumption) (by decide)) (by decide) ?_
    refine lv_iconst (v := (-1)) hx hb dX4_face_97 (by decide) ?_
    exact RET (-1) () H locs _ _ (E.symm.trans hO) rfl hP hD hS dX4_face_98
  · have E := x_neg E c_5
    refine lv_iconst (v := (-1)) hx hb dX4_face_9 (by decide) ?_
    exact RET (-1) () H locs _ _ (E.symm.trans hO) rfl hP hD hS dX4_face_10
abbrev rX4_now : Room := { frames := 2, cells := 0, slots := 0, locals := 43 }
theorem vX4_now : yX4_now.cls = RX4 ∧ yX4_now.cls ≠ "java/lang/invoke/MethodHandle" ∧ yX4_now.cls ≠ "java/lang/invoke/VarHandle" ∧ (parseMethodDescriptor yX4_now.desc).map (fun d => d.parameters.length) = some 1 := by decide +kernel
abbrev wX4_now : List Cond := Cond.code yX4_now cX4_now 2 (some .int) :: wsL_law
def F_X4_now (r_radius : Int32) (r_filling : Int32) (m_down : Int32) (m_core : Int32) (m_water : Int32) (m_pricked : Int32) (m_seconds : Int32) (m_gone : Int32) (m_splitAt : Int32) (m_steam : Int32) (a1 : Int32) : Int32 :=
  if a1 = 0 then m_down else if a1 = 1 then m_core else if a1 = 2 then m_water else if a1 = 3 then m_pricked else if a1 = 4 then m_seconds else if a1 = 5 then m_gone else if a1 = 6 then m_splitAt else if a1 = 7 then x_nm (F_X1_pressIn m_core m_pricked m_gone m_steam r_filling) fun z_9 => z_9 else if a1 = 8 then x_nm (F_X1_pressIn m_core m_pricked m_gone m_steam r_filling) fun z_13 => x_nm (F_X1_pullAlong r_radius z_13) fun z_16 => z_16 else if a1 = 9 then m_steam else (-1)
set_option maxHeartbeats 4000000 in
set_option maxRecDepth 100000 in
theorem m_X4_now (l : Launch) (g : x_G) (tA rA mA dA cA eA jA tA_images tA_kept tA_heats tA_salts tA_crumbsOf rA_kinds rA_firsts rA_seconds mA_degrees mA_brown : Nat) (t_tests : Nat) (t_traced : Int64) (t_dryWeight : Int32) (r_radius : Int32) (r_skin : Int32) (r_filling : Int32) (r_water : Int32) (r_ends : Int32) (r_thin : Int32) (r_chance : Int32) (r_bentFace : Int32) (r_bentBy : Int32) (r_doings : Nat) (m_down : Int32) (m_core : Int32) (m_water : Int32) (m_pricked : Int32) (m_thinSpots : Int32) (m_seconds : Int32) (m_gone : Int32) (m_splitAt : Int32) (m_steam : Int32) (a1 : Int32) : x_MetI l yX4_now wX4_now rX4_now g [.ref tA, .int a1] [(tA, .inr (4, [.ref rA, .ref dA, .ref cA, .ref eA, .ref mA, .ref jA, .ref tA_images, .ref tA_kept, .ref tA_heats, .ref tA_salts, .ref tA_crumbsOf, .int (nI t_tests), .long t_traced, .int t_dryWeight])), (rA, .inr (3, [.int r_radius, .int r_skin, .int r_filling, .int r_water, .int r_ends, .int r_thin, .int r_chance, .int r_bentFace, .int r_bentBy, .int (nI r_doings), .ref rA_kinds, .ref rA_firsts, .ref rA_seconds])), (mA, .inr (1, [.int m_down, .ref mA_degrees, .ref mA_brown, .int m_core, .int m_water, .int m_pricked, .int m_thinSpots, .int m_seconds, .int m_gone, .int m_splitAt, .int m_steam]))] (fun (r : Int32) (u : Unit) => r = F_X4_now r_radius r_filling m_down m_core m_water m_pricked m_seconds m_gone m_splitAt m_steam a1) (fun _ => [(tA, .inr (4, [.ref rA, .ref dA, .ref cA, .ref eA, .ref mA, .ref jA, .ref tA_images, .ref tA_kept, .ref tA_heats, .ref tA_salts, .ref tA_crumbsOf, .int (nI t_tests), .long t_traced, .int t_dryWeight])), (rA, .inr (3, [.int r_radius, .int r_skin, .int r_filling, .int r_water, .int r_ends, .int r_thin, .int r_chance, .int r_bentFace, .int r_bentBy, .int (nI r_doings), .ref rA_kinds, .ref rA_firsts, .ref rA_seconds])), (mA, .inr (1, [.int m_down, .ref mA_degrees, .ref mA_brown, .int m_core, .int m_water, .int m_pricked, .int m_thinSpots, .int m_seconds, .int m_gone, .int m_splitAt, .int m_steam]))]) := by
  refine x_startI (cc := cX4_now) (maxL := 2) (by decide) rfl (Nat.le_of_ble_eq_true rfl) ?_
  intro p e s m args below meth c Q A ls H locs hx hb hml hown hts hK hX hP hD hS hA hl RET
  have hown : s.vm.findClass RX4 = some m.cls := hown
  have hl : lv_has ls 2 [(0, .ref tA), (1, .int a1)] := hl
  obtain ⟨o_0, hO⟩ : ∃ z, z = F_X4_now r_radius r_filling m_down m_core m_water m_pricked m_seconds m_gone m_splitAt m_steam a1 := ⟨_, rfl⟩
  have E := hO
  rw [F_X4_now.eq_1] at E
  refine lv_iload_n hx hb dX4_now_0 rfl (lv_at hl 1 rfl) ?_
  by_cases c_1 : a1 = 0
  · have E := x_pos E c_1
    refine lv_tableIn (off := 55) (tgt := 56) hx hb dX4_now_1 (by rw [c_1]; decide) (by rw [c_1]; decide) (by rw [c_1]; decide) (by decide) ?_
    refine lv_aload_n hx hb dX4_now_56 rfl (lv_at hl 0 rfl) ?_
    refine va_get (ci := 4) (v := .ref mA) (C := RX4) (T := TX4) (N := 14) hx hb hts inlX4 hown hK.1 hP 0 rfl rfl 4 (by decide) (hts _ kw_26) (fun _ h9 => h9) rfl dX4_now_57 ?_
    refine va_get (ci := 1) (v := .int m_down) (C := RX1) (T := TX1) (N := 11) hx hb hts inlX1 hown hK.1 hP 2 rfl rfl 0 (by decide) (hts _ kw_474) (fun _ h9 => h9) rfl dX4_now_60 ?_
    exact RET m_down () H locs _ _ (E.symm.trans hO) rfl hP hD hS dX4_now_63
  have E := x_neg E c_1
  by_cases c_2 : a1 = 1
  · have E := x_pos E c_2
    refine lv_tableIn (off := 63) (tgt := 64) hx hb dX4_now_1 (by rw [c_2]; decide) (by rw [c_2]; decide) (by rw [c_2]; decide) (by decide) ?_
    refine lv_aload_n hx hb dX4_now_64 rfl (lv_at hl 0 rfl) ?_
    refine va_get (ci := 4) (v := .ref mA) (C := RX4) (T := TX4) (N := 14) hx hb hts inlX4 hown hK.1 hP 0 rfl rfl 4 (by decide) (hts _ kw_26) (fun _ h9 => h9) rfl dX4_now_65 ?_
    refine va_get (ci := 1) (v := .int m_core) (C := RX1) (T := TX1) (N := 11) hx hb hts inlX1 hown hK.1 hP 2 rfl rfl 3 (by decide) (hts _ kw_533) (fun _ h9 => h9) rfl dX4_now_68 ?_
    exact RET m_core () H locs _ _ (E.symm.trans hO) rfl hP hD hS dX4_now_71
  have E := x_neg E c_2
  by_cases c_3 : a1 = 2
  · have E := x_pos E c_3
    refine lv_tableIn (off := 71) (tgt := 72) hx hb dX4_now_1 (by rw [c_3]; decide) (by rw [c_3]; decide) (by rw [c_3]; decide) (by decide) ?_
    refine lv_aload_n hx hb dX4_now_72 rfl (lv_at hl 0 rfl) ?_
    refine va_get (ci := 4) (v := .ref mA) (C := RX4) (T := TX4) (N := 14) hx hb hts inlX4 hown hK.1 hP 0 rfl rfl 4 (by decide) (hts _ kw_26) (fun _ h9 => h9) rfl dX4_now_73 ?_
    refine va_get (ci := 1) (v := .int m_water) (C := RX1) (T := TX1) (N := 11) hx hb hts inlX1 hown hK.1 hP 2 rfl rfl 4 (by decide) (hts _ kw_534) (fun _ h9 => h9) rfl dX4_now_76 ?_
    exact RET m_water () H locs _ _ (E.symm.trans hO) rfl hP hD hS dX4_now_79
  have E := x_neg E c_3
  by_cases c_4 : a1 = 3
  · have E := x_pos E c_4
    refine lv_tableIn (off := 79) (tgt := 80) hx hb dX4_now_1 (by rw [c_4]; decide) (by rw [c_4]; decide) (by rw [c_4]; decide) (by decide) ?_
    refine lv_aload_n hx hb dX4_now_80 rfl (lv_at hl 0 rfl) ?_
    refine va_get (ci := 4) (v := .ref mA) (C := RX4) (T := TX4) (N := 14) hx hb hts inlX4 hown hK.1 hP 0 rfl rfl 4 (by decide) (hts _ kw_26) (fun _ h9 => h9) rfl dX4_now_81 ?_
    refine va_get (ci := 1) (v := .int m_pricked) (C := RX1) (T := TX1) (N := 11) hx hb hts inlX1 hown hK.1 hP 2 rfl rfl 5 (by decide) (hts _ kw_492) (fun _ h9 => h9) rfl dX4_now_84 ?_
    exact RET m_pricked () H locs _ _ (E.symm.trans hO) rfl hP hD hS dX4_now_87
  have E := x_neg E c_4
  by_cases c_5 : a1 = 4
  · have E := x_pos E c_5
    refine lv_tableIn (off := 87) (tgt := 88) hx hb dX4_now_1 (by rw [c_5]; decide) (by rw [c_5]; decide) (by rw [c_5]; decide) (by decide) ?_
    refine lv_aload_n hx hb dX4_now_88 rfl (lv_at hl 0 rfl) ?_
    refine va_get (ci := 4) (v := .ref mA) (C := RX4) (T := TX4) (N := 14) hx hb hts inlX4 hown hK.1 hP 0 rfl rfl 4 (by decide) (hts _ kw_26) (fun _ h9 => h9) rfl dX4_now_89 ?_
    refine va_get (ci := 1) (v := .int m_seconds) (C := RX1) (T := TX1) (N := 11) hx hb hts inlX1 hown hK.1 hP 2 rfl rfl 7 (by decide) (hts _ kw_535) (fun _ h9 => h9) rfl dX4_now_92 ?_
    exact RET m_seconds () H locs _ _ (E.symm.trans hO) rfl hP hD hS dX4_now_95
  have E := x_neg E c_5
  by_cases c_6 : a1 = 5
  · have E := x_pos E c_6
    refine lv_tableIn (off := 95) (tgt := 96) hx hb dX4_now_1 (by rw [c_6]; decide) (by rw [c_6]; decide) (by rw [c_6]; decide) (by decide) ?_
    refine lv_aload_n hx hb dX4_now_96 rfl (lv_at hl 0 rfl) ?_
    refine va_get (ci := 4) (v := .ref mA) (C := RX4) (T := TX4) (N := 14) hx hb hts inlX4 hown hK.1 hP 0 rfl rfl 4 (by decide) (hts _ kw_26) (fun _ h9 => h9) rfl dX4_now_97 ?_
    refine va_get (ci := 1) (v := .int m_gone) (C := RX1) (T := TX1) (N := 11) hx hb hts inlX1 hown hK.1 hP 2 rfl rfl 8 (by decide) (hts _ kw_384) (fun _ h9 => h9) rfl dX4_now_100 ?_
    exact RET m_gone () H locs _ _ (E.symm.trans hO) rfl hP hD hS dX4_now_103
  have E := x_neg E c_6
  by_cases c_7 : a1 = 6
  · have E := x_pos E c_7
    refine lv_tableIn (off := 103) (tgt := 104) hx hb dX4_now_1 (by rw [c_7]; decide) (by rw [c_7]; decide) (by rw [c_7]; decide) (by decide) ?_
    refine lv_aload_n hx hb dX4_now_104 rfl (lv_at hl 0 rfl) ?_
    refine va_get (ci := 4) (v := .ref mA) (C := RX4) (T := TX4) (N := 14) hx hb hts inlX4 hown hK.1 hP 0 rfl rfl 4 (by decide) (hts _ kw_26) (fun _ h9 => h9) rfl dX4_now_105 ?_
    refine va_get (ci := 1) (v := .int m_splitAt) (C := RX1) (T := TX1) (N := 11) hx hb hts inlX1 hown hK.1 hP 2 rfl rfl 9 (by decide) (hts _ kw_536) (fun _ h9 => h9) rfl dX4_now_108 ?_
    exact RET m_splitAt () H locs _ _ (E.symm.trans hO) rfl hP hD hS dX4_now_111
  have E := x_neg E c_7
  by_cases c_8 : a1 = 7
  · have E := x_pos E c_8
    refine lv_tableIn (off := 111) (tgt := 112) hx hb dX4_now_1 (by rw [c_8]; decide) (by rw [c_8]; decide) (by rw [c_8]; decide) (by decide) ?_
    refine lv_aload_n hx hb dX4_now_112 rfl (lv_at hl 0 rfl) ?_
    refine va_get (ci := 4) (v := .ref mA) (C := RX4) (T := TX4) (N := 14) hx hb hts inlX4 hown hK.1 hP 0 rfl rfl 4 (by decide) (hts _ kw_26) (fun _ h9 => h9) rfl dX4_now_113 ?_
    refine lv_aload_n hx hb dX4_now_116 rfl (lv_at hl 0 rfl) ?_
    refine va_get (ci := 4) (v := .ref rA) (C := RX4) (T := TX4) (N := 14) hx hb hts inlX4 hown hK.1 hP 0 rfl rfl 0 (by decide) (hts _ kw_16) (fun _ h9 => h9) rfl dX4_now_117 ?_
    refine x_callVi (w2 := fun u => [(tA, .inr (4, [.ref rA, .ref dA, .ref cA, .ref eA, .ref mA, .ref jA, .ref tA_images, .ref tA_kept, .ref tA_heats, .ref tA_salts, .ref tA_crumbsOf, .int (nI t_tests), .long t_traced, .int t_dryWeight])), (rA, .inr (3, [.int r_radius, .int r_skin, .int r_filling, .int r_water, .int r_ends, .int r_thin, .int r_chance, .int r_bentFace, .int r_bentBy, .int (nI r_doings), .ref rA_kinds, .ref rA_firsts, .ref rA_seconds])), (mA, .inr (1, [.int m_down, .ref mA_degrees, .ref mA_brown, .int m_core, .int m_water, .int m_pricked, .int m_thinSpots, .int m_seconds, .int m_gone, .int m_splitAt, .int m_steam]))]) (wr := [(tA, .inr (4, [.ref rA, .ref dA, .ref cA, .ref eA, .ref mA, .ref jA, .ref tA_images, .ref tA_kept, .ref tA_heats, .ref tA_salts, .ref tA_crumbsOf, .int (nI t_tests), .long t_traced, .int t_dryWeight]))]) [2, 1] [0] [0, 2, 1] 2 1 ⟨hx, hb, hml, hown, hts⟩ hK hX hP hD hS hA (m_X1_pressIn l g mA rA mA_degrees mA_brown rA_kinds rA_firsts rA_seconds m_down m_core m_water m_pricked m_thinSpots m_seconds m_gone m_splitAt m_steam r_radius r_skin r_filling r_water r_ends r_thin r_chance r_bentFace r_bentBy r_doings) (cwV 1 hts (x_gV kw_523 kw_415 kw_416 kw_25 kw_417) rfl rfl rfl vX1_pressIn ⟨Nat.le_of_ble_eq_true rfl, Nat.le_of_ble_eq_true rfl⟩) rfl rfl rfl rfl rfl rfl rfl (by decide) (fun _ => rfl) rfl rfl hl.1 rfl (Nat.le_of_ble_eq_true rfl) dX4_now_120 ⟨Nat.zero_le _, Nat.zero_le _⟩ (fun z_9 _ H locs hw_10 hP hD hS => ?_)
    have E := x_nm_eq E hw_10
    exact RET z_9 () H locs _ _ (E.symm.trans hO) rfl hP hD hS dX4_now_123
  have E := x_neg E c_8
  by_cases c_12 : a1 = 8
  · have E := x_pos E c_12
    refine lv_tableIn (off := 123) (tgt := 124) hx hb dX4_now_1 (by rw [c_12]; decide) (by rw [c_12]; decide) (by rw [c_12]; decide) (by decide) ?_
    refine lv_aload_n hx hb dX4_now_124 rfl (lv_at hl 0 rfl) ?_
    refine va_get (ci := 4) (v := .ref rA) (C := RX4) (T := TX4) (N := 14) hx hb hts inlX4 hown hK.1 hP 0 rfl rfl 0 (by decide) (hts _ kw_16) (fun _ h9 => h9) rfl dX4_now_125 ?_
    refine lv_aload_n hx hb dX4_now_128 rfl (lv_at hl 0 rfl) ?_
    refine va_get (ci := 4) (v := .ref mA) (C := RX4) (T := TX4) (N := 14) hx hb hts inlX4 hown hK.1 hP 0 rfl rfl 4 (by decide) (hts _ kw_26) (fun _ h9 => h9) rfl dX4_now_129 ?_
    refine lv_aload_n hx hb dX4_now_132 rfl (lv_at hl 0 rfl) ?_
    refine va_get (ci := 4) (v := .ref rA) (C := RX4) (T := TX4) (N := 14) hx hb hts inlX4 hown hK.1 hP 0 rfl rfl 0 (by decide) (hts _ kw_16) (fun _ h9 => h9) rfl dX4_now_133 ?_
    refine x_callVi (w2 := fun u => [(tA, .inr (4, [.ref rA, .ref dA, .ref cA, .ref eA, .ref mA, .ref jA, .ref tA_images, .ref tA_kept, .ref tA_heats, .ref tA_salts, .ref tA_crumbsOf, .int (nI t_tests), .long t_traced, .int t_dryWeight])), (rA, .inr (3, [.int r_radius, .int r_skin, .int r_filling, .int r_water, .int r_ends, .int r_thin, .int r_chance, .int r_bentFace, .int r_bentBy, .int (nI r_doings), .ref rA_kinds, .ref rA_firsts, .ref rA_seconds])), (mA, .inr (1, [.int m_down, .ref mA_degrees, .ref mA_brown, .int m_core, .int m_water, .int m_pricked, .int m_thinSpots, .int m_seconds, .int m_gone, .int m_splitAt, .int m_steam]))]) (wr := [(tA, .inr (4, [.ref rA, .ref dA, .ref cA, .ref eA, .ref mA, .ref jA, .ref tA_images, .ref tA_kept, .ref tA_heats, .ref tA_salts, .ref tA_crumbsOf, .int (nI t_tests), .long t_traced, .int t_dryWeight]))]) [2, 1] [0] [0, 2, 1] 2 1 ⟨hx, hb, hml, hown, hts⟩ hK hX hP hD hS hA (m_X1_pressIn l g mA rA mA_degrees mA_brown rA_kinds rA_firsts rA_seconds m_down m_core m_water m_pricked m_thinSpots m_seconds m_gone m_splitAt m_steam r_radius r_skin r_filling r_water r_ends r_thin r_chance r_bentFace r_bentBy r_doings) (cwV 1 hts (x_gV kw_523 kw_415 kw_416 kw_25 kw_417) rfl rfl rfl vX1_pressIn ⟨Nat.le_of_ble_eq_true rfl, Nat.le_of_ble_eq_true rfl⟩) rfl rfl rfl rfl rfl rfl rfl (by decide) (fun _ => rfl) rfl rfl hl.1 rfl (Nat.le_of_ble_eq_true rfl) dX4_now_136 ⟨Nat.zero_le _, Nat.zero_le _⟩ (fun z_13 _ H locs hw_14 hP hD hS => ?_)
    have E := x_nm_eq E hw_14
    refine x_callSi (w2 := fun u => [(tA, .inr (4, [.ref rA, .ref dA, .ref cA, .ref eA, .ref mA, .ref jA, .ref tA_images, .ref tA_kept, .ref tA_heats, .ref tA_salts, .ref tA_crumbsOf, .int (nI t_tests), .long t_traced, .int t_dryWeight])), (rA, .inr (3, [.int r_radius, .int r_skin, .int r_filling, .int r_water, .int r_ends, .int r_thin, .int r_chance, .int r_bentFace, .int r_bentBy, .int (nI r_doings), .ref rA_kinds, .ref rA_firsts, .ref rA_seconds])), (mA, .inr (1, [.int m_down, .ref mA_degrees, .ref mA_brown, .int m_core, .int m_water, .int m_pricked, .int m_thinSpots, .int m_seconds, .int m_gone, .int m_splitAt, .int m_steam]))]) (wr := [(tA, .inr (4, [.ref rA, .ref dA, .ref cA, .ref eA, .ref mA, .ref jA, .ref tA_images, .ref tA_kept, .ref tA_heats, .ref tA_salts, .ref tA_crumbsOf, .int (nI t_tests), .long t_traced, .int t_dryWeight])), (mA, .inr (1, [.int m_down, .ref mA_degrees, .ref mA_brown, .int m_core, .int m_water, .int m_pricked, .int m_thinSpots, .int m_seconds, .int m_gone, .int m_splitAt, .int m_steam]))]) [1] [0, 2] [0, 2, 1] ⟨hx, hb, hml, hown, hts⟩ hK hX hP hD hS hA (m_X1_pullAlong l g rA rA_kinds rA_firsts rA_seconds r_radius r_skin r_filling r_water r_ends r_thin r_chance r_bentFace r_bentBy r_doings z_13) (va_cwS 2 hts (x_gS kw_538 kw_436 kw_25 kw_437) rfl rfl rfl vX1_pullAlongS ⟨Nat.le_of_ble_eq_true rfl, Nat.le_of_ble_eq_true rfl⟩) rfl rfl rfl rfl (by decide) (fun _ => rfl) rfl rfl hl.1 rfl (Nat.le_of_ble_eq_true rfl) dX4_now_139 ⟨Nat.zero_le _, Nat.zero_le _⟩ (fun z_16 _ H locs hw_17 hP hD hS => ?_)
    have E := x_nm_eq E hw_17
    exact RET z_16 () H locs _ _ (E.symm.trans hO) rfl hP hD hS dX4_now_142
  have E := x_neg E c_12
  by_cases c_19 : a1 = 9
  · have E := x_pos E c_19
    refine lv_tableIn (off := 142) (tgt := 143) hx hb dX4_now_1 (by rw [c_19]; decide) (by rw [c_19]; decide) (by rw [c_19]; decide) (by decide) ?_
    refine lv_aload_n hx hb dX4_now_143 rfl (lv_at hl 0 rfl) ?_
    refine va_get (ci := 4) (v := .ref mA) (C := RX4) (T := TX4) (N := 14) hx hb hts inlX4 hown hK.1 hP 0 rfl rfl 4 (by decide) (hts _ kw_26) (fun _ h9 => h9) rfl dX4_now_144 ?_
    refine va_get (ci := 1) (v := .int m_steam) (C := RX1) (T := TX1) (N := 11) hx hb hts inlX1 hown hK.1 hP 2 rfl rfl 10 (by decide) (hts _ kw_537) (fun _ h9 => h9) rfl dX4_now_147 ?_
    exact RET m_steam () H locs _ _ (E.symm.trans hO) rfl hP hD hS dX4_now_150
  have E := x_neg E c_19
  refine lv_tableOut (tgt := 151) hx hb dX4_now_1 (x_out 10 (by decide) (fun k hk => by rcases (show k = 0 ∨ k = 1 ∨ k = 2 ∨ k = 3 ∨ k = 4 ∨ k = 5 ∨ k = 6 ∨ k = 7 ∨ k = 8 ∨ k = 9 by omega) with rfl | rfl | rfl | rfl | rfl | rfl | rfl | rfl | rfl | rfl <;> assumption) (by decide)) (by decide) ?_
  refine lv_iconst (v := (-1)) hx hb dX4_now_151 (by decide) ?_
  exact RET (-1) () H locs _ _ (E.symm.trans hO) rfl hP hD hS dX4_now_152
abbrev rX4_anew : Room := { frames := 1, cells := 0, slots := 0, locals := 22 }
theorem vX4_anew : yX4_anew.cls = RX4 ∧ yX4_anew.cls ≠ "java/lang/invoke/MethodHandle" ∧ yX4_anew.cls ≠ "java/lang/invoke/VarHandle" ∧ (parseMethodDescriptor yX4_anew.desc).map (fun d => d.parameters.length) = some 0 := by decide +kernel
abbrev wX4_anew : List Cond := Cond.code yX4_anew cX4_anew 2 (some .int) :: wsL_law
def F_X4_anew (r_water : Int32) (m_degrees : Nat → Int32) (m_brown : Nat → Int32) (m_seconds : Int32) : Int32 × Int32 × Int32 × Int32 × Int32 × Int32 × Int32 × Int32 × Int32 × Int32 × (Nat → Int32) × (Nat → Int32) :=
  x_nm (F_X1_begin m_degrees m_brown r_water) fun u_13 => (m_seconds, u_13.1, u_13.2.1, u_13.2.2.1, u_13.2.2.2.1, u_13.2.2.2.2.1, u_13.2.2.2.2.2.1, u_13.2.2.2.2.2.2.1, u_13.2.2.2.2.2.2.2.1, u_13.2.2.2.2.2.2.2.2.1, u_13.2.2.2.2.2.2.2.2.2.1, u_13.2.2.2.2.2.2.2.2.2.2)
set_option maxHeartbeats 4000000 in
set_option maxRecDepth 100000 in
theorem m_X4_anew (l : Launch) (g : x_G) (tA rA mA mA_degrees mA_brown dA cA eA jA tA_images tA_kept tA_heats tA_salts tA_crumbsOf rA_kinds rA_firsts rA_seconds : Nat) (t_tests : Nat) (t_traced : Int64) (t_dryWeight : Int32) (r_radius : Int32) (r_skin : Int32) (r_filling : Int32) (r_water : Int32) (r_ends : Int32) (r_thin : Int32) (r_chance : Int32) (r_bentFace : Int32) (r_bentBy : Int32) (r_doings : Nat) (m_down : Int32) (m_core : Int32) (m_water : Int32) (m_pricked : Int32) (m_thinSpots : Int32) (m_seconds : Int32) (m_gone : Int32) (m_splitAt : Int32) (m_steam : Int32) (m_degrees : Nat → Int32) (m_brown : Nat → Int32) : x_MetI l yX4_anew wX4_anew rX4_anew g [.ref tA] [(tA, .inr (4, [.ref rA, .ref dA, .ref cA, .ref eA, .ref mA, .ref jA, .ref tA_images, .ref tA_kept, .ref tA_heats, .ref tA_salts, .ref tA_crumbsOf, .int (nI t_tests), .long t_traced, .int t_dryWeight])), (rA, .inr (3, [.int r_radius, .int r_skin, .int r_filling, .int r_water, .int r_ends, .int r_thin, .int r_chance, .int r_bentFace, .int r_bentBy, .int (nI r_doings), .ref rA_kinds, .ref rA_firsts, .ref rA_seconds])), (mA, .inr (1, [.int m_down, .ref mA_degrees, .ref mA_brown, .int m_core, .int m_water, .int m_pricked, .int m_thinSpots, .int m_seconds, .int m_gone, .int m_splitAt, .int m_steam])), (mA_degrees, .inl (g.2.1 0, 4, .inl m_degrees)), (mA_brown, .inl (g.2.1 0, 4, .inl m_brown))] (fun (r : Int32) (u : Int32 × Int32 × Int32 × Int32 × Int32 × Int32 × Int32 × Int32 × Int32 × (Nat → Int32) × (Nat → Int32)) => (r, u) = F_X4_anew r_water m_degrees m_brown m_seconds) (fun u => [(tA, .inr (4, [.ref rA, .ref dA, .ref cA, .ref eA, .ref mA, .ref jA, .ref tA_images, .ref tA_kept, .ref tA_heats, .ref tA_salts, .ref tA_crumbsOf, .int (nI t_tests), .long t_traced, .int t_dryWeight])), (rA, .inr (3, [.int r_radius, .int r_skin, .int r_filling, .int r_water, .int r_ends, .int r_thin, .int r_chance, .int r_bentFace, .int r_bentBy, .int (nI r_doings), .ref rA_kinds, .ref rA_firsts, .ref rA_seconds])), (mA, .inr (1, [.int u.1, .ref mA_degrees, .ref mA_brown, .int u.2.1, .int u.2.2.1, .int u.2.2.2.1, .int u.2.2.2.2.1, .int u.2.2.2.2.2.1, .int u.2.2.2.2.2.2.1, .int u.2.2.2.2.2.2.2.1, .int u.2.2.2.2.2.2.2.2.1])), (mA_degrees, .inl (g.2.1 0, 4, .inl u.2.2.2.2.2.2.2.2.2.1)), (mA_brown, .inl (g.2.1 0, 4, .inl u.2.2.2.2.2.2.2.2.2.2))]) := by
  refine x_startI (cc := cX4_anew) (maxL := 2) (by decide) rfl (Nat.le_of_ble_eq_true rfl) ?_
  intro p e s m args below meth c Q A ls H locs hx hb hml hown hts hK hX hP hD hS hA hl RET
  have hown : s.vm.findClass RX4 = some m.cls := hown
  have hl : lv_has ls 2 [(0, .ref tA)] := hl
  obtain ⟨o_0, hO⟩ : ∃ z, z = F_X4_anew r_water m_degrees m_brown m_seconds := ⟨_, rfl⟩
  have E := hO
  rw [F_X4_anew.eq_1] at E
  refine lv_aload_n hx hb dX4_anew_0 rfl (lv_at hl 0 rfl) ?_
  refine va_get (ci := 4) (v := .ref mA) (C := RX4) (T := TX4) (N := 14) hx hb hts inlX4 hown hK.1 hP 0 rfl rfl 4 (by decide) (hts _ kw_26) (fun _ h9 => h9) rfl dX4_anew_1 ?_
  refine va_get (ci := 1) (v := .int m_seconds) (C := RX1) (T := TX1) (N := 11) hx hb hts inlX1 hown hK.1 hP 2 rfl rfl 7 (by decide) (hts _ kw_535) (fun _ h9 => h9) rfl dX4_anew_4 ?_
  refine lv_istore_n (lv' := [(1, .int m_seconds), (0, .ref tA)]) hx hb dX4_anew_7 rfl hl (by decide) rfl (fun ls hl => ?_)
  refine lv_aload_n hx hb dX4_anew_8 rfl (lv_at hl 1 rfl) ?_
  refine va_get (ci := 4) (v := .ref mA) (C := RX4) (T := TX4) (N := 14) hx hb hts inlX4 hown hK.1 hP 0 rfl rfl 4 (by decide) (hts _ kw_26) (fun _ h9 => h9) rfl dX4_anew_9 ?_
  refine lv_aload_n hx hb dX4_anew_12 rfl (lv_at hl 1 rfl) ?_
  refine va_get (ci := 4) (v := .ref rA) (C := RX4) (T := TX4) (N := 14) hx hb hts inlX4 hown hK.1 hP 0 rfl rfl 0 (by decide) (hts _ kw_16) (fun _ h9 => h9) rfl dX4_anew_13 ?_
  refine va_get (ci := 3) (v := .int r_water) (C := RX3) (T := TX3) (N := 13) hx hb hts inlX3 hown hK.1 hP 1 rfl rfl 3 (by decide) (hts _ kw_38) (fun _ h9 => h9) rfl dX4_anew_16 ?_
  refine x_callVv (w2 := fun u => [(tA, .inr (4, [.ref rA, .ref dA, .ref cA, .ref eA, .ref mA, .ref jA, .ref tA_images, .ref tA_kept, .ref tA_heats, .ref tA_salts, .ref tA_crumbsOf, .int (nI t_tests), .long t_traced, .int t_dryWeight])), (rA, .inr (3, [.int r_radius, .int r_skin, .int r_filling, .int r_water, .int r_ends, .int r_thin, .int r_chance, .int r_bentFace, .int r_bentBy, .int (nI r_doings), .ref rA_kinds, .ref rA_firsts, .ref rA_seconds])), (mA, .inr (1, [.int u.1, .ref mA_degrees, .ref mA_brown, .int u.2.1, .int u.2.2.1, .int u.2.2.2.1, .int u.2.2.2.2.1, .int u.2.2.2.2.2.1, .int u.2.2.2.2.2.2.1, .int u.2.2.2.2.2.2.2.1, .int u.2.2.2.2.2.2.2.2.1])), (mA_degrees, .inl (g.2.1 0, 4, .inl u.2.2.2.2.2.2.2.2.2.1)), (mA_brown, .inl (g.2.1 0, 4, .inl u.2.2.2.2.2.2.2.2.2.2))]) (wr := [(tA, .inr (4, [.ref rA, .ref dA, .ref cA, .ref eA, .ref mA, .ref jA, .ref tA_images, .ref tA_kept, .ref tA_heats, .ref tA_salts, .ref tA_crumbsOf, .int (nI t_tests), .long t_traced, .int t_dryWeight])), (rA, .inr (3, [.int r_radius, .int r_skin, .int r_filling, .int r_water, .int r_ends, .int r_thin, .int r_chance, .int r_bentFace, .int r_bentBy, .int (nI r_doings), .ref rA_kinds, .ref rA_firsts, .ref rA_seconds]))]) [2, 3, 4] [0, 1] [0, 1, 2, 3, 4] 2 1 ⟨hx, hb, hml, hown, hts⟩ hK hX hP hD hS hA (m_X1_begin l g mA mA_degrees mA_brown m_down m_core m_water m_pricked m_thinSpots m_seconds m_gone m_splitAt m_steam m_degrees m_brown r_water) (cwV 1 hts (x_gV kw_75 kw_76 kw_77 kw_25 kw_78) rfl rfl rfl vX1_begin ⟨Nat.le_of_ble_eq_true rfl, Nat.le_of_ble_eq_true rfl⟩) rfl rfl rfl rfl rfl rfl rfl (by decide) (fun _ => rfl) rfl rfl hl.1 rfl (Nat.le_of_ble_eq_true rfl) dX4_anew_19 ⟨Nat.zero_le _, Nat.zero_le _⟩ (fun u H locs hw_12 hP hD hS => ?_)
  obtain ⟨m_down_1, m_core_2, m_water_3, m_pricked_4, m_thinSpots_5, m_seconds_6, m_gone_7, m_splitAt_8, m_steam_9, m_degrees_10, m_brown_11⟩ := u
  have hP : va_P g.1 vwCl [(tA, .inr (4, [.ref rA, .ref dA, .ref cA, .ref eA, .ref mA, .ref jA, .ref tA_images, .ref tA_kept, .ref tA_heats, .ref tA_salts, .ref tA_crumbsOf, .int (nI t_tests), .long t_traced, .int t_dryWeight])), (rA, .inr (3, [.int r_radius, .int r_skin, .int r_filling, .int r_water, .int r_ends, .int r_thin, .int r_chance, .int r_bentFace, .int r_bentBy, .int (nI r_doings), .ref rA_kinds, .ref rA_firsts, .ref rA_seconds])), (mA, .inr (1, [.int m_down_1, .ref mA_degrees, .ref mA_brown, .int m_core_2, .int m_water_3, .int m_pricked_4, .int m_thinSpots_5, .int m_seconds_6, .int m_gone_7, .int m_splitAt_8, .int m_steam_9])), (mA_degrees, .inl (g.2.1 0, 4, .inl m_degrees_10)), (mA_brown, .inl (g.2.1 0, 4, .inl m_brown_11))] H := hP
  have hD : va_D A [(tA, .inr (4, [.ref rA, .ref dA, .ref cA, .ref eA, .ref mA, .ref jA, .ref tA_images, .ref tA_kept, .ref tA_heats, .ref tA_salts, .ref tA_crumbsOf, .int (nI t_tests), .long t_traced, .int t_dryWeight])), (rA, .inr (3, [.int r_radius, .int r_skin, .int r_filling, .int r_water, .int r_ends, .int r_thin, .int r_chance, .int r_bentFace, .int r_bentBy, .int (nI r_doings), .ref rA_kinds, .ref rA_firsts, .ref rA_seconds])), (mA, .inr (1, [.int m_down_1, .ref mA_degrees, .ref mA_brown, .int m_core_2, .int m_water_3, .int m_pricked_4, .int m_thinSpots_5, .int m_seconds_6, .int m_gone_7, .int m_splitAt_8, .int m_steam_9])), (mA_degrees, .inl (g.2.1 0, 4, .inl m_degrees_10)), (mA_brown, .inl (g.2.1 0, 4, .inl m_brown_11))] := hD
  have E := x_nm_eq E hw_12
  refine lv_iload_n hx hb dX4_anew_22 rfl (lv_at hl 0 rfl) ?_
  exact RET m_seconds (m_down_1, m_core_2, m_water_3, m_pricked_4, m_thinSpots_5, m_seconds_6, m_gone_7, m_splitAt_8, m_steam_9, m_degrees_10, m_brown_11) H locs _ _ (E.symm.trans hO) rfl hP hD hS dX4_anew_23
abbrev rX4_heat : Room := { frames := 1, cells := 0, slots := 0, locals := 22 }
theorem vX4_heat : yX4_heat.cls = RX4 ∧ yX4_heat.cls ≠ "java/lang/invoke/MethodHandle" ∧ yX4_heat.cls ≠ "java/lang/invoke/VarHandle" ∧ (parseMethodDescriptor yX4_heat.desc).map (fun d => d.parameters.length) = some 2 := by decide +kernel
abbrev wX4_heat : List Cond := Cond.code yX4_heat cX4_heat 4 (some .int) :: wsL_law
def F_X4_heat (t_heats : Nat → Int32) (a1 : Int32) (a2 : Int32) : Int32 × (Nat → Int32) :=
  x_nm (F_X4_outside a1 0 3) fun z_1 => if z_1 = 0 then x_nm (a1.toNatClampNeg) fun j_7 => x_nm (F_X4_outside a2 0 99) fun z_8 => if z_8 = 0 then x_nm (a2.toNatClampNeg) fun j_14 => x_nm (upd t_heats j_7 (nI j_14)) fun t_heats_15 => (t_heats j_7, t_heats_15) else ((-1), t_heats) else ((-1), t_heats)
set_option maxHeartbeats 4000000 in
set_option maxRecDepth 100000 in
theorem m_X4_heat (l : Launch) (g : x_G) (tA tA_heats rA dA cA eA mA jA tA_images tA_kept tA_salts tA_crumbsOf : Nat) (t_tests : Nat) (t_traced : Int64) (t_dryWeight : Int32) (t_heats : Nat → Int32) (a1 : Int32) (a2 : Int32) : x_MetI l yX4_heat wX4_heat rX4_heat g [.ref tA, .int a1, .int a2] [(tA, .inr (4, [.ref rA, .ref dA, .ref cA, .ref eA, .ref mA, .ref jA, .ref tA_images, .ref tA_kept, .ref tA_heats, .ref tA_salts, .ref tA_crumbsOf, .int (nI t_tests), .long t_traced, .int t_dryWeight])), (tA_heats, .inl (g.2.1 0, 4, .inl t_heats))] (fun (r : Int32) (u : (Nat → Int32)) => (r, u) = F_X4_heat t_heats a1 a2) (fun u => [(tA, .inr (4, [.ref rA, .ref dA, .ref cA, .ref eA, .ref mA, .ref jA, .ref tA_images, .ref tA_kept, .ref tA_heats, .ref tA_salts, .ref tA_crumbsOf, .int (nI t_tests), .long t_traced, .int t_dryWeight])), (tA_heats, .inl (g.2.1 0, 4, .inl u))]) := by
  refine x_startI (cc := cX4_heat) (maxL := 4) (by decide) rfl (Nat.le_of_ble_eq_true rfl) ?_
  intro p e s m args below meth c Q A ls H locs hx hb hml hown hts hK hX hP hD hS hA hl RET
  have hown : s.vm.findClass RX4 = some m.cls := hown
  have hl : lv_has ls 4 [(0, .ref tA), (1, .int a1), (2, .int a2)] := hl
  obtain ⟨o_0, hO⟩ : ∃ z, z = F_X4_heat t_heats a1 a2 := ⟨_, rfl⟩
  have E := hO
  rw [F_X4_heat.eq_1] at E
  refine lv_iload_n hx hb dX4_heat_0 rfl (lv_at hl 1 rfl) ?_
  refine lv_iconst (v := 0) hx hb dX4_heat_1 (by decide) ?_
  refine lv_iconst (v := 3) hx hb dX4_heat_2 (by decide) ?_
  refine x_callS0 ⟨hx, hb, hml, hown, hts⟩ hK hX hP hD hS hA (m_X4_outside l g a1 0 3) (va_cwS 3 hts (x_gS kw_115 kw_116 kw_2 kw_117) rfl rfl rfl vX4_outsideS ⟨Nat.le_of_ble_eq_true rfl, Nat.le_of_ble_eq_true rfl⟩) rfl hl.1 rfl (Nat.le_of_ble_eq_true rfl) dX4_heat_3 ⟨Nat.zero_le _, Nat.zero_le _⟩ (fun z_1 _ H locs hw_2 hP hD hS => ?_)
  obtain ⟨hw_2, b_3⟩ := hw_2
  have E := x_nm_eq E hw_2
  refine x_if_neI (tgt := 19) hx hb dX4_heat_6 (by decide) (fun c_5 => ?_) (fun c_5 => ?_)
  · have E := x_neg E c_5
    refine lv_iconst (v := (-1)) hx hb dX4_heat_19 (by decide) ?_
    exact RET (-1) t_heats H locs _ _ (E.symm.trans hO) rfl hP hD hS dX4_heat_20
  · have E := x_pos E c_5
    obtain ⟨j_7, hj⟩ : ∃ z, z = (a1).toNatClampNeg := ⟨_, rfl⟩
    have r_6_0 := (x_outs (lo := 0) (hi := 3) (by omega) (by omega) (hw_2.symm.trans c_5))
    rw [← hj] at r_6_0
    obtain ⟨r_6_0_a, r_6_0_b, e_6_0⟩ := r_6_0
    have E := x_nm_eq E hj
    have hl : lv_has ls 4 [(0, .ref tA), (1, .int (nI j_7)), (2, .int a2)] := by rw [e_6_0] at hl; exact hl
    refine lv_iload_n hx hb dX4_heat_9 rfl (lv_at hl 2 rfl) ?_
    refine lv_iconst (v := 0) hx hb dX4_heat_10 (by decide) ?_
    refine lv_bipush (v := 99) hx hb dX4_heat_11 (by decide) ?_
    refine x_callS0 ⟨hx, hb, hml, hown, hts⟩ hK hX hP hD hS hA (m_X4_outside l g a2 0 99) (va_cwS 3 hts (x_gS kw_115 kw_116 kw_2 kw_117) rfl rfl rfl vX4_outsideS ⟨Nat.le_of_ble_eq_true rfl, Nat.le_of_ble_eq_true rfl⟩) rfl hl.1 rfl (Nat.le_of_ble_eq_true rfl) dX4_heat_13 ⟨Nat.zero_le _, Nat.zero_le _⟩ (fun z_8 _ H locs hw_9 hP hD hS => ?_)
    obtain ⟨hw_9, b_10⟩ := hw_9
    have E := x_nm_eq E hw_9
    refine lv_if_eq (tgt := 21) hx hb dX4_heat_16 (by decide) (fun c_12 => ?_) (fun c_12 => ?_)
    · have E := x_pos E c_12
      obtain ⟨j_14, hj⟩ : ∃ z, z = (a2).toNatClampNeg := ⟨_, rfl⟩
      have r_13_0 := (x_outs (lo := 0) (hi := 99) (by omega) (by omega) (hw_9.symm.trans c_12))
      rw [← hj] at r_13_0
      obtain ⟨r_13_0_a, r_13_0_b, e_13_0⟩ := r_13_0
      have E := x_nm_eq E hj
      have hl : lv_has ls 4 [(0, .ref tA), (1, .int (nI j_7)), (2, .int (nI j_14))] := by rw [e_13_0] at hl; exact hl
      refine lv_aload_n hx hb dX4_heat_21 rfl (lv_at hl 0 rfl) ?_
      refine va_get (ci := 4) (v := .ref tA_heats) (C := RX4) (T := TX4) (N := 14) hx hb hts inlX4 hown hK.1 hP 0 rfl rfl 8 (by decide) (hts _ kw_35) (fun _ h9 => h9) rfl dX4_heat_22 ?_
      refine lv_iload_n hx hb dX4_heat_25 rfl (lv_at hl 1 rfl) ?_
      refine x_ialdN hx hb hK hP 1 j_7 rfl (by omega) (by decide) dX4_heat_26 ?_
      refine lv_istore_n (lv' := [(3, .int (t_heats j_7)), (0, .ref tA), (1, .int (nI j_7)), (2, .int (nI j_14))]) hx hb dX4_heat_27 rfl hl (by decide) rfl (fun ls hl => ?_)
      refine lv_aload_n hx hb dX4_heat_28 rfl (lv_at hl 1 rfl) ?_
      refine va_get (ci := 4) (v := .ref tA_heats) (C := RX4) (T := TX4) (N := 14) hx hb hts inlX4 hown hK.1 hP 0 rfl rfl 8 (by decide) (hts _ kw_35) (fun _ h9 => h9) rfl dX4_heat_29 ?_
      refine lv_iload_n hx hb dX4_heat_32 rfl (lv_at hl 2 rfl) ?_
      refine lv_iload_n hx hb dX4_heat_33 rfl (lv_at hl 3 rfl) ?_
      refine x_iastN hx hb hK hP hD hS 1 j_7 rfl (by omega) (by decide) dX4_heat_34 (fun t_heats_15 H locs hf hP hD hS => ?_)
      have hP : va_P g.1 vwCl [(tA, .inr (4, [.ref rA, .ref dA, .ref cA, .ref eA, .ref mA, .ref jA, .ref tA_images, .ref tA_kept, .ref tA_heats, .ref tA_salts, .ref tA_crumbsOf, .int (nI t_tests), .long t_traced, .int t_dryWeight])), (tA_heats, .inl (g.2.1 0, 4, .inl t_heats_15))] H := hP
      have hD : va_D A [(tA, .inr (4, [.ref rA, .ref dA, .ref cA, .ref eA, .ref mA, .ref jA, .ref tA_images, .ref tA_kept, .ref tA_heats, .ref tA_salts, .ref tA_crumbsOf, .int (nI t_tests), .long t_traced, .int t_dryWeight])), (tA_heats, .inl (g.2.1 0, 4, .inl t_heats_15))] := hD
      have E := x_nm_eq E hf
      refine lv_iload_n hx hb dX4_heat_35 rfl (lv_at hl 0 rfl) ?_
      exact RET (t_heats j_7) t_heats_15 H locs _ _ (E.symm.trans hO) rfl hP hD hS dX4_heat_36
    · have E := x_neg E c_12
      refine lv_iconst (v := (-1)) hx hb dX4_heat_19 (by decide) ?_
      exact RET (-1) t_heats H locs _ _ (E.symm.trans hO) rfl hP hD hS dX4_heat_20
abbrev rX4_test : Room := { frames := 1, cells := 0, slots := 0, locals := 22 }
theorem vX4_test : yX4_test.cls = RX4 ∧ yX4_test.cls ≠ "java/lang/invoke/MethodHandle" ∧ yX4_test.cls ≠ "java/lang/invoke/VarHandle" ∧ (parseMethodDescriptor yX4_test.desc).map (fun d => d.parameters.length) = some 2 := by decide +kernel
abbrev wX4_test : List Cond := Cond.code yX4_test cX4_test 3 (some .int) :: wsL_law
def F_X4_test (t_salts : Nat → Int32) (t_crumbsOf : Nat → Int32) (t_tests : Nat) (a1 : Int32) (a2 : Int32) : Int32 × Nat × (Nat → Int32) × (Nat → Int32) :=
  x_nm (F_X4_outside a1 0 30) fun z_1 => if z_1 = 0 then x_nm (a1.toNatClampNeg) fun j_7 => x_nm (F_X4_outside a2 0 999) fun z_8 => if z_8 = 0 then x_nm (a2.toNatClampNeg) fun j_14 => x_nm (F_X4_outside (nI t_tests) 0 19) fun z_15 => if z_15 = 0 then x_nm (upd t_salts t_tests (nI j_7)) fun t_salts_21 => x_nm (upd t_crumbsOf t_tests (nI j_14)) fun t_crumbsOf_22 => (nI (t_tests + 1), t_tests + 1, t_salts_21, t_crumbsOf_22) else ((-3), t_tests, t_salts, t_crumbsOf) else ((-1), t_tests, t_salts, t_crumbsOf) else ((-1), t_tests, t_salts, t_crumbsOf)
set_option maxHeartbeats 4000000 in
set_option maxRecDepth 100000 in
theorem m_X4_test (l : Launch) (g : x_G) (tA tA_salts tA_crumbsOf rA dA cA eA mA jA tA_images tA_kept tA_heats : Nat) (t_tests : Nat) (t_traced : Int64) (t_dryWeight : Int32) (t_salts : Nat → Int32) (t_crumbsOf : Nat → Int32) (a1 : Int32) (a2 : Int32) (h_0 : t_tests ≤ 20) : x_MetI l yX4_test wX4_test rX4_test g [.ref tA, .int a1, .int a2] [(tA, .inr (4, [.ref rA, .ref dA, .ref cA, .ref eA, .ref mA, .ref jA, .ref tA_images, .ref tA_kept, .ref tA_heats, .ref tA_salts, .ref tA_crumbsOf, .int (nI t_tests), .long t_traced, .int t_dryWeight])), (tA_salts, .inl (g.2.1 0, 20, .inl t_salts)), (tA_crumbsOf, .inl (g.2.1 0, 20, .inl t_crumbsOf))] (fun (r : Int32) (u : Nat × (Nat → Int32) × (Nat → Int32)) => ((r, u) = F_X4_test t_salts t_crumbsOf t_tests a1 a2) ∧ (u.1 ≤ 20)) (fun u => [(tA, .inr (4, [.ref rA, .ref dA, .ref cA, .ref eA, .ref mA, .ref jA, .ref tA_images, .ref tA_kept, .ref tA_heats, .ref tA_salts, .ref tA_crumbsOf, .int (nI u.1), .long t_traced, .int t_dryWeight])), (tA_salts, .inl (g.2.1 0, 20, .inl u.2.1)), (tA_crumbsOf, .inl (g.2.1 0, 20, .inl u.2.2))]) := by
  refine x_startI (cc := cX4_test) (maxL := 3) (by decide) rfl (Nat.le_of_ble_eq_true rfl) ?_
  intro p e s m args below meth c Q A ls H locs hx hb hml hown hts hK hX hP hD hS hA hl RET
  have hown : s.vm.findClass RX4 = some m.cls := hown
  have hl : lv_has ls 3 [(0, .ref tA), (1, .int a1), (2, .int a2)] := hl
  obtain ⟨o_0, hO⟩ : ∃ z, z = F_X4_test t_salts t_crumbsOf t_tests a1 a2 := ⟨_, rfl⟩
  have E := hO
  rw [F_X4_test.eq_1] at E
  refine lv_iload_n hx hb dX4_test_0 rfl (lv_at hl 1 rfl) ?_
  refine lv_iconst (v := 0) hx hb dX4_test_1 (by decide) ?_
  refine lv_bipush (v := 30) hx hb dX4_test_2 (by decide) ?_
  refine x_callS0 ⟨hx, hb, hml, hown, hts⟩ hK hX hP hD hS hA (m_X4_outside l g a1 0 30) (va_cwS 3 hts (x_gS kw_115 kw_116 kw_2 kw_117) rfl rfl rfl vX4_outsideS ⟨Nat.le_of_ble_eq_true rfl, Nat.le_of_ble_eq_true rfl⟩) rfl hl.1 rfl (Nat.le_of_ble_eq_true rfl) dX4_test_4 ⟨Nat.zero_le _, Nat.zero_le _⟩ (fun z_1 _ H locs hw_2 hP hD hS => ?_)
  obtain ⟨hw_2, b_3⟩ := hw_2
  have E := x_nm_eq E hw_2
  refine x_if_neI (tgt := 21) hx hb dX4_test_7 (by decide) (fun c_5 => ?_) (fun c_5 => ?_)
  · have E := x_neg E c_5
    refine lv_iconst (v := (-1)) hx hb dX4_test_21 (by decide) ?_
    exact RET (-1) (t_tests, t_salts, t_crumbsOf) H locs _ _ ⟨E.symm.trans hO, (show t_tests ≤ 20 by first | omega | assumption | exact Or.inl rfl | exact Or.inr (by omega))⟩ rfl hP hD hS dX4_test_22
  · have E := x_pos E c_5
    obtain ⟨j_7, hj⟩ : ∃ z, z = (a1).toNatClampNeg := ⟨_, rfl⟩
    have r_6_0 := (x_outs (lo := 0) (hi := 30) (by omega) (by omega) (hw_2.symm.trans c_5))
    rw [← hj] at r_6_0
    obtain ⟨r_6_0_a, r_6_0_b, e_6_0⟩ := r_6_0
    have E := x_nm_eq E hj
    have hl : lv_has ls 3 [(0, .ref tA), (1, .int (nI j_7)), (2, .int a2)] := by rw [e_6_0] at hl; exact hl
    refine lv_iload_n hx hb dX4_test_10 rfl (lv_at hl 2 rfl) ?_
    refine lv_iconst (v := 0) hx hb dX4_test_11 (by decide) ?_
    refine lv_sipush (v := 999) hx hb dX4_test_12 (by decide) ?_
    refine x_callS0 ⟨hx, hb, hml, hown, hts⟩ hK hX hP hD hS hA (m_X4_outside l g a2 0 999) (va_cwS 3 hts (x_gS kw_115 kw_116 kw_2 kw_117) rfl rfl rfl vX4_outsideS ⟨Nat.le_of_ble_eq_true rfl, Nat.le_of_ble_eq_true rfl⟩) rfl hl.1 rfl (Nat.le_of_ble_eq_true rfl) dX4_test_15 ⟨Nat.zero_le _, Nat.zero_le _⟩ (fun z_8 _ H locs hw_9 hP hD hS => ?_)
    obtain ⟨hw_9, b_10⟩ := hw_9
    have E := x_nm_eq E hw_9
    refine lv_if_eq (tgt := 23) hx hb dX4_test_18 (by decide) (fun c_12 => ?_) (fun c_12 => ?_)
    · have E := x_pos E c_12
      obtain ⟨j_14, hj⟩ : ∃ z, z = (a2).toNatClampNeg := ⟨_, rfl⟩
      have r_13_0 := (x_outs (lo := 0) (hi := 999) (by omega) (by omega) (hw_9.symm.trans c_12))
      rw [← hj] at r_13_0
      obtain ⟨r_13_0_a, r_13_0_b, e_13_0⟩ := r_13_0
      have E := x_nm_eq E hj
      have hl : lv_has ls 3 [(0, .ref tA), (1, .int (nI j_7)), (2, .int (nI j_14))] := by rw [e_13_0] at hl; exact hl
      refine lv_aload_n hx hb dX4_test_23 rfl (lv_at hl 0 rfl) ?_
      refine va_get (ci := 4) (v := .int (nI t_tests)) (C := RX4) (T := TX4) (N := 14) hx hb hts inlX4 hown hK.1 hP 0 rfl rfl 11 (by decide) (hts _ kw_783) (fun _ h9 => h9) rfl dX4_test_24 ?_
      refine lv_iconst (v := 0) hx hb dX4_test_27 (by decide) ?_
      refine lv_bipush (v := 19) hx hb dX4_test_28 (by decide) ?_
      refine x_callS0 ⟨hx, hb, hml, hown, hts⟩ hK hX hP hD hS hA (m_X4_outside l g (nI t_tests) 0 19) (va_cwS 3 hts (x_gS kw_115 kw_116 kw_2 kw_117) rfl rfl rfl vX4_outsideS ⟨Nat.le_of_ble_eq_true rfl, Nat.le_of_ble_eq_true rfl⟩) rfl hl.1 rfl (Nat.le_of_ble_eq_true rfl) dX4_test_30 ⟨Nat.zero_le _, Nat.zero_le _⟩ (fun z_15 _ H locs hw_16 hP hD hS => ?_)
      obtain ⟨hw_16, b_17⟩ := hw_16
      have E := x_nm_eq E hw_16
      refine lv_if_eq (tgt := 39) hx hb dX4_test_33 (by decide) (fun c_19 => ?_) (fun c_19 => ?_)
      · have E := x_pos E c_19
        have r_20_0 := (x_outsN (t := t_tests) (by omega) (lo := 0) (hi := 19) (by omega) (by omega) (hw_16.symm.trans c_19))
        refine lv_aload_n hx hb dX4_test_39 rfl (lv_at hl 0 rfl) ?_
        refine va_get (ci := 4) (v := .ref tA_salts) (C := RX4) (T := TX4) (N := 14) hx hb hts inlX4 hown hK.1 hP 0 rfl rfl 9 (by decide) (hts _ kw_36) (fun _ h9 => h9) rfl dX4_test_40 ?_
        refine lv_aload_n hx hb dX4_test_43 rfl (lv_at hl 0 rfl) ?_
        refine va_get (ci := 4) (v := .int (nI t_tests)) (C := RX4) (T := TX4) (N := 14) hx hb hts inlX4 hown hK.1 hP 0 rfl rfl 11 (by decide) (hts _ kw_783) (fun _ h9 => h9) rfl dX4_test_44 ?_
        refine lv_iload_n hx hb dX4_test_47 rfl (lv_at hl 1 rfl) ?_
        refine x_iastN hx hb hK hP hD hS 1 t_tests rfl (by omega) (by decide) dX4_test_48 (fun t_salts_21 H locs hf hP hD hS => ?_)
        have hP : va_P g.1 vwCl [(tA, .inr (4, [.ref rA, .ref dA, .ref cA, .ref eA, .ref mA, .ref jA, .ref tA_images, .ref tA_kept, .ref tA_heats, .ref tA_salts, .ref tA_crumbsOf, .int (nI t_tests), .long t_traced, .int t_dryWeight])), (tA_salts, .inl (g.2.1 0, 20, .inl t_salts_21)), (tA_crumbsOf, .inl (g.2.1 0, 20, .inl t_crumbsOf))] H := hP
        have hD : va_D A [(tA, .inr (4, [.ref rA, .ref dA, .ref cA, .ref eA, .ref mA, .ref jA, .ref tA_images, .ref tA_kept, .ref tA_heats, .ref tA_salts, .ref tA_crumbsOf, .int (nI t_tests), .long t_traced, .int t_dryWeight])), (tA_salts, .inl (g.2.1 0, 20, .inl t_salts_21)), (tA_crumbsOf, .inl (g.2.1 0, 20, .inl t_crumbsOf))] := hD
        have E := x_nm_eq E hf
        refine lv_aload_n hx hb dX4_test_49 rfl (lv_at hl 0 rfl) ?_
        refine va_get (ci := 4) (v := .ref tA_crumbsOf) (C := RX4) (T := TX4) (N := 14) hx hb hts inlX4 hown hK.1 hP 0 rfl rfl 10 (by decide) (hts _ kw_37) (fun _ h9 => h9) rfl dX4_test_50 ?_
        refine lv_aload_n hx hb dX4_test_53 rfl (lv_at hl 0 rfl) ?_
        refine va_get (ci := 4) (v := .int (nI t_tests)) (C := RX4) (T := TX4) (N := 14) hx hb hts inlX4 hown hK.1 hP 0 rfl rfl 11 (by decide) (hts _ kw_783) (fun _ h9 => h9) rfl dX4_test_54 ?_
        refine lv_iload_n hx hb dX4_test_57 rfl (lv_at hl 2 rfl) ?_
        refine x_iastN hx hb hK hP hD hS 2 t_tests rfl (by omega) (by decide) dX4_test_58 (fun t_crumbsOf_22 H locs hf hP hD hS => ?_)
        have hP : va_P g.1 vwCl [(tA, .inr (4, [.ref rA, .ref dA, .ref cA, .ref eA, .ref mA, .ref jA, .ref tA_images, .ref tA_kept, .ref tA_heats, .ref tA_salts, .ref tA_crumbsOf, .int (nI t_tests), .long t_traced, .int t_dryWeight])), (tA_salts, .inl (g.2.1 0, 20, .inl t_salts_21)), (tA_crumbsOf, .inl (g.2.1 0, 20, .inl t_crumbsOf_22))] H := hP
        have hD : va_D A [(tA, .inr (4, [.ref rA, .ref dA, .ref cA, .ref eA, .ref mA, .ref jA, .ref tA_images, .ref tA_kept, .ref tA_heats, .ref tA_salts, .ref tA_crumbsOf, .int (nI t_tests), .long t_traced, .int t_dryWeight])), (tA_salts, .inl (g.2.1 0, 20, .inl t_salts_21)), (tA_crumbsOf, .inl (g.2.1 0, 20, .inl t_crumbsOf_22))] := hD
        have E := x_nm_eq E hf
        refine lv_aload_n hx hb dX4_test_59 rfl (lv_at hl 0 rfl) ?_
        refine lv_dup hx hb dX4_test_60 rfl ?_
        refine va_get (ci := 4) (v := .int (nI t_tests)) (C := RX4) (T := TX4) (N := 14) hx hb hts inlX4 hown hK.1 hP 0 rfl rfl 11 (by decide) (hts _ kw_783) (fun _ h9 => h9) rfl dX4_test_61 ?_
        refine lv_iconst (v := 1) hx hb dX4_test_64 (by decide) ?_
        refine lv_iadd hx hb dX4_test_65 ?_
        refine x_eqi (nI_add t_tests 1) ?_
        refine va_put (ci := 4) (v := .int (nI (t_tests + 1))) (ty := .int) (C := RX4) (T := TX4) (N := 14) hx hb hts inlX4 tyX4 tyX4_ok nmX4 hown hK.1 hP hD hS 0 rfl rfl 11 (by decide) (hts _ kw_783) (fun _ h9 => h9) rfl (tyX4_ok 11 (by decide)) rfl rfl (Nat.le_of_ble_eq_true rfl) dX4_test_66 (fun H locs hP hD hS => ?_)
        have hP : va_P g.1 vwCl [(tA, .inr (4, [.ref rA, .ref dA, .ref cA, .ref eA, .ref mA, .ref jA, .ref tA_images, .ref tA_kept, .ref tA_heats, .ref tA_salts, .ref tA_crumbsOf, .int (nI (t_tests + 1)), .long t_traced, .int t_dryWeight])), (tA_salts, .inl (g.2.1 0, 20, .inl t_salts_21)), (tA_crumbsOf, .inl (g.2.1 0, 20, .inl t_crumbsOf_22))] H := hP
        have hD : va_D A [(tA, .inr (4, [.ref rA, .ref dA, .ref cA, .ref eA, .ref mA, .ref jA, .ref tA_images, .ref tA_kept, .ref tA_heats, .ref tA_salts, .ref tA_crumbsOf, .int (nI (t_tests + 1)), .long t_traced, .int t_dryWeight])), (tA_salts, .inl (g.2.1 0, 20, .inl t_salts_21)), (tA_crumbsOf, .inl (g.2.1 0, 20, .inl t_crumbsOf_22))] := hD
        refine lv_aload_n hx hb dX4_test_69 rfl (lv_at hl 0 rfl) ?_
        refine va_get (ci := 4) (v := .int (nI (t_tests + 1))) (C := RX4) (T := TX4) (N := 14) hx hb hts inlX4 hown hK.1 hP 0 rfl rfl 11 (by decide) (hts _ kw_783) (fun _ h9 => h9) rfl dX4_test_70 ?_
        exact RET (nI (t_tests + 1)) (t_tests + 1, t_salts_21, t_crumbsOf_22) H locs _ _ ⟨E.symm.trans hO, (show (t_tests + 1) ≤ 20 by first | omega | assumption | exact Or.inl rfl | exact Or.inr (by omega))⟩ rfl hP hD hS dX4_test_73
      · have E := x_neg E c_19
        refine lv_bipush (v := (-3)) hx hb dX4_test_36 (by decide) ?_
        exact RET (-3) (t_tests, t_salts, t_crumbsOf) H locs _ _ ⟨E.symm.trans hO, (show t_tests ≤ 20 by first | omega | assumption | exact Or.inl rfl | exact Or.inr (by omega))⟩ rfl hP hD hS dX4_test_38
    · have E := x_neg E c_12
      refine lv_iconst (v := (-1)) hx hb dX4_test_21 (by decide) ?_
      exact RET (-1) (t_tests, t_salts, t_crumbsOf) H locs _ _ ⟨E.symm.trans hO, (show t_tests ≤ 20 by first | omega | assumption | exact Or.inl rfl | exact Or.inr (by omega))⟩ rfl hP hD hS dX4_test_22
abbrev rX4_holds : Room := { frames := 1, cells := 0, slots := 0, locals := 22 }
theorem vX4_holds : yX4_holds.cls = RX4 ∧ yX4_holds.cls ≠ "java/lang/invoke/MethodHandle" ∧ yX4_holds.cls ≠ "java/lang/invoke/VarHandle" ∧ (parseMethodDescriptor yX4_holds.desc).map (fun d => d.parameters.length) = some 1 := by decide +kernel
abbrev wX4_holds : List Cond := Cond.code yX4_holds cX4_holds 5 (some .int) :: wsL_law
def F_X4_holds_L20 (t_salts : Nat → Int32) (t_crumbsOf : Nat → Int32) (t_tests : Nat) : Nat → Int32 → Int32 → Nat → Int32 × Int32
  | 0, l2_20, l3_21, k4_22 => (l2_20, l3_21)
  | n_23 + 1, l2_20, l3_21, k4_22 => if t_tests ≤ k4_22 then (l2_20, l3_21) else if 20 ≤ k4_22 then (l2_20, l3_21) else x_nm (α := Int32 × Int32) (if 100 < (t_crumbsOf k4_22) then x_nm (if l3_21 < (t_salts k4_22) then (t_salts k4_22) else l3_21) fun q_30 => (l2_20, q_30) else x_nm (α := Int32) (if l2_20 = (-9) then t_salts k4_22 else x_nm (if (t_salts k4_22) < l2_20 then (t_salts k4_22) else l2_20) fun q_34 => q_34) fun u_32 => (u_32, l3_21)) fun u_28 => F_X4_holds_L20 t_salts t_crumbsOf t_tests n_23 u_28.1 u_28.2 (k4_22 + 1)
def F_X4_holds (t_salts : Nat → Int32) (t_crumbsOf : Nat → Int32) (t_tests : Nat) (a1 : Int32) : Int32 :=
  x_nm (F_X4_outside a1 0 2) fun z_1 => if z_1 = 0 then x_nm (a1.toNatClampNeg) fun j_7 => x_nm (α := Int32 × Int32) (F_X4_holds_L20 t_salts t_crumbsOf t_tests (20 + 1) (-9) (-9) 0) fun u_10 => if j_7 = 2 then x_nm (α := Int32) (if u_10.1 = (-9) then 1 else if u_10.2 = (-9) then 1 else if u_10.1 ≤ u_10.2 then 0 else 1) fun u_16 => u_16 else x_nm (α := Int32) (if j_7 = 0 then u_10.1 else u_10.2) fun u_13 => u_13 else (-1)
set_option maxHeartbeats 4000000 in
set_option maxRecDepth 100000 in
theorem m_X4_holds (l : Launch) (g : x_G) (tA tA_salts tA_crumbsOf rA dA cA eA mA jA tA_images tA_kept tA_heats : Nat) (t_tests : Nat) (t_traced : Int64) (t_dryWeight : Int32) (t_salts : Nat → Int32) (t_crumbsOf : Nat → Int32) (a1 : Int32) (h_0 : t_tests ≤ 20) : x_MetI l yX4_holds wX4_holds rX4_holds g [.ref tA, .int a1] [(tA, .inr (4, [.ref rA, .ref dA, .ref cA, .ref eA, .ref mA, .ref jA, .ref tA_images, .ref tA_kept, .ref tA_heats, .ref tA_salts, .ref tA_crumbsOf, .int (nI t_tests), .long t_traced, .int t_dryWeight])), (tA_salts, .inl (g.2.1 0, 20, .inl t_salts)), (tA_crumbsOf, .inl (g.2.1 0, 20, .inl t_crumbsOf))] (fun (r : Int32) (u : Unit) => r = F_X4_holds t_salts t_crumbsOf t_tests a1) (fun _ => [(tA, .inr (4, [.ref rA, .ref dA, .ref cA, .ref eA, .ref mA, .ref jA, .ref tA_images, .ref tA_kept, .ref tA_heats, .ref tA_salts, .ref tA_crumbsOf, .int (nI t_tests), .long t_traced, .int t_dryWeight])), (tA_salts, .inl (g.2.1 0, 20, .inl t_salts)), (tA_crumbsOf, .inl (g.2.1 0, 20, .inl t_crumbsOf))]) := by
  refine x_startI (cc := cX4_holds) (maxL := 5) (by decide) rfl (Nat.le_of_ble_eq_true rfl) ?_
  intro p e s m args below meth c Q A ls H locs hx hb hml hown hts hK hX hP hD hS hA hl RET
  have hown : s.vm.findClass RX4 = some m.cls := hown
  have hl : lv_has ls 5 [(0, .ref tA), (1, .int a1)] := hl
  obtain ⟨o_0, hO⟩ : ∃ z, z = F_X4_holds t_salts t_crumbsOf t_tests a1 := ⟨_, rfl⟩
  have E := hO
  rw [F_X4_holds.eq_1] at E
  refine lv_iload_n hx hb dX4_holds_0 rfl (lv_at hl 1 rfl) ?_
  refine lv_iconst (v := 0) hx hb dX4_holds_1 (by decide) ?_
  refine lv_iconst (v := 2) hx hb dX4_holds_2 (by decide) ?_
  refine x_callS0 ⟨hx, hb, hml, hown, hts⟩ hK hX hP hD hS hA (m_X4_outside l g a1 0 2) (va_cwS 3 hts (x_gS kw_115 kw_116 kw_2 kw_117) rfl rfl rfl vX4_outsideS ⟨Nat.le_of_ble_eq_true rfl, Nat.le_of_ble_eq_true rfl⟩) rfl hl.1 rfl (Nat.le_of_ble_eq_true rfl) dX4_holds_3 ⟨Nat.zero_le _, Nat.zero_le _⟩ (fun z_1 _ H locs hw_2 hP hD hS => ?_)
  obtain ⟨hw_2, b_3⟩ := hw_2
  have E := x_nm_eq E hw_2
  refine lv_if_eq (tgt := 11) hx hb dX4_holds_6 (by decide) (fun c_5 => ?_) (fun c_5 => ?_)
  · have E := x_pos E c_5
    obtain ⟨j_7, hj⟩ : ∃ z, z = (a1).toNatClampNeg := ⟨_, rfl⟩
    have r_6_0 := (x_outs (lo := 0) (hi := 2) (by omega) (by omega) (hw_2.symm.trans c_5))
    rw [← hj] at r_6_0
    obtain ⟨r_6_0_a, r_6_0_b, e_6_0⟩ := r_6_0
    have E := x_nm_eq E hj
    have hl : lv_has ls 5 [(0, .ref tA), (1, .int (nI j_7))] := by rw [e_6_0] at hl; exact hl
    refine lv_bipush (v := (-9)) hx hb dX4_holds_11 (by decide) ?_
    refine lv_istore_n (lv' := [(2, .int (-9)), (0, .ref tA), (1, .int (nI j_7))]) hx hb dX4_holds_13 rfl hl (by decide) rfl (fun ls hl => ?_)
    refine lv_bipush (v := (-9)) hx hb dX4_holds_14 (by decide) ?_
    refine lv_istore_n (lv' := [(3, .int (-9)), (2, .int (-9)), (0, .ref tA), (1, .int (nI j_7))]) hx hb dX4_holds_16 rfl hl (by decide) rfl (fun ls hl => ?_)
    refine lv_iconst (v := 0) hx hb dX4_holds_17 (by decide) ?_
    refine lv_istore (lv' := [(4, .int 0), (3, .int (-9)), (2, .int (-9)), (0, .ref tA), (1, .int (nI j_7))]) hx hb dX4_holds_18 hl (by decide) rfl (fun ls hl => ?_)
    obtain ⟨o_10, E_10, E⟩ := x_nm_ex E
    have J_10 : ∀ (l2_8 : Int32) (l3_9 : Int32), o_10 = (l2_8, l3_9) → ∀ (H : Heap) (locs : List Loc) (ls : Array Slot), va_P g.1 vwCl [(tA, .inr (4, [.ref rA, .ref dA, .ref cA, .ref eA, .ref mA, .ref jA, .ref tA_images, .ref tA_kept, .ref tA_heats, .ref tA_salts, .ref tA_crumbsOf, .int (nI t_tests), .long t_traced, .int t_dryWeight])), (tA_salts, .inl (g.2.1 0, 20, .inl t_salts)), (tA_crumbsOf, .inl (g.2.1 0, 20, .inl t_crumbsOf))] H → va_D A [(tA, .inr (4, [.ref rA, .ref dA, .ref cA, .ref eA, .ref mA, .ref jA, .ref tA_images, .ref tA_kept, .ref tA_heats, .ref tA_salts, .ref tA_crumbsOf, .int (nI t_tests), .long t_traced, .int t_dryWeight])), (tA_salts, .inl (g.2.1 0, 20, .inl t_salts)), (tA_crumbsOf, .inl (g.2.1 0, 20, .inl t_crumbsOf))] → va_S A s.heap H locs → lv_has ls 5 [(1, .int (nI j_7)), (2, .int l2_8), (3, .int l3_9)] → W p l e rX4_holds s m args below meth c H locs 0 0 Q (F0 m 97 ls []) := by
      intro l2_8 l3_9 hE  H locs ls hP hD hS hl
      try rw [hE] at E
      refine lv_iload_n hx hb dX4_holds_97 rfl (lv_at hl 0 rfl) ?_
      refine lv_iconst (v := 2) hx hb dX4_holds_98 (by decide) ?_
      refine x_icmp_ne (a := j_7) (b := 2) (tgt := 125) hx hb (by omega) (by omega) dX4_holds_99 (by decide) (fun c_11 => ?_) (fun c_11 => ?_)
      · have E := x_neg E c_11
        refine lv_iload_n hx hb dX4_holds_125 rfl (lv_at hl 0 rfl) ?_
        obtain ⟨o_13, E_13, E⟩ := x_nm_ex E
        have J_13 : ∀ (v_12 : Int32), o_13 = v_12 → ∀ (H : Heap) (locs : List Loc) (ls : Array Slot), va_P g.1 vwCl [(tA, .inr (4, [.ref rA, .ref dA, .ref cA, .ref eA, .ref mA, .ref jA, .ref tA_images, .ref tA_kept, .ref tA_heats, .ref tA_salts, .ref tA_crumbsOf, .int (nI t_tests), .long t_traced, .int t_dryWeight])), (tA_salts, .inl (g.2.1 0, 20, .inl t_salts)), (tA_crumbsOf, .inl (g.2.1 0, 20, .inl t_crumbsOf))] H → va_D A [(tA, .inr (4, [.ref rA, .ref dA, .ref cA, .ref eA, .ref mA, .ref jA, .ref tA_images, .ref tA_kept, .ref tA_heats, .ref tA_salts, .ref tA_crumbsOf, .int (nI t_tests), .long t_traced, .int t_dryWeight])), (tA_salts, .inl (g.2.1 0, 20, .inl t_salts)), (tA_crumbsOf, .inl (g.2.1 0, 20, .inl t_crumbsOf))] → va_S A s.heap H locs → lv_has ls 5 [] → W p l e rX4_holds s m args below meth c H locs 0 0 Q (F0 m 134 ls [.int v_12]) := by
          intro v_12 hE  H locs ls hP hD hS hl
          try rw [hE] at E
          exact RET v_12 () H locs _ _ (E.symm.trans hO) rfl hP hD hS dX4_holds_134
        have E := E_13
        refine x_if_ne (a := j_7) (tgt := 133) hx hb (by omega) dX4_holds_126 (by decide) (fun c_14 => ?_) (fun c_14 => ?_)
        · have E := x_neg E c_14
          refine lv_iload_n hx hb dX4_holds_133 rfl (lv_at hl 2 rfl) ?_
          exact J_13 l3_9 E  H locs ls hP hD hS (lv_sub hl [] rfl)
        · have E := x_pos E c_14
          refine lv_iload_n hx hb dX4_holds_129 rfl (lv_at hl 1 rfl) ?_
          refine lv_goto (tgt := 134) hx hb dX4_holds_130 (by decide) ?_
          exact J_13 l2_8 E  H locs ls hP hD hS (lv_sub hl [] rfl)
      · have E := x_pos E c_11
        refine lv_iload_n hx hb dX4_holds_102 rfl (lv_at hl 1 rfl) ?_
        refine lv_bipush (v := (-9)) hx hb dX4_holds_103 (by decide) ?_
        obtain ⟨o_16, E_16, E⟩ := x_nm_ex E
        have J_16 : ∀ (v_15 : Int32), o_16 = v_15 → ∀ (H : Heap) (locs : List Loc) (ls : Array Slot), va_P g.1 vwCl [(tA, .inr (4, [.ref rA, .ref dA, .ref cA, .ref eA, .ref mA, .ref jA, .ref tA_images, .ref tA_kept, .ref tA_heats, .ref tA_salts, .ref tA_crumbsOf, .int (nI t_tests), .long t_traced, .int t_dryWeight])), (tA_salts, .inl (g.2.1 0, 20, .inl t_salts)), (tA_crumbsOf, .inl (g.2.1 0, 20, .inl t_crumbsOf))] H → va_D A [(tA, .inr (4, [.ref rA, .ref dA, .ref cA, .ref eA, .ref mA, .ref jA, .ref tA_images, .ref tA_kept, .ref tA_heats, .ref tA_salts, .ref tA_crumbsOf, .int (nI t_tests), .long t_traced, .int t_dryWeight])), (tA_salts, .inl (g.2.1 0, 20, .inl t_salts)), (tA_crumbsOf, .inl (g.2.1 0, 20, .inl t_crumbsOf))] → va_S A s.heap H locs → lv_has ls 5 [] → W p l e rX4_holds s m args below meth c H locs 0 0 Q (F0 m 124 ls [.int v_15]) := by
          intro v_15 hE  H locs ls hP hD hS hl
          try rw [hE] at E
          exact RET v_15 () H locs _ _ (E.symm.trans hO) rfl hP hD hS dX4_holds_124
        have E := E_16
        refine lv_icmp_eq (tgt := 119) hx hb dX4_holds_105 (by decide) (fun c_17 => ?_) (fun c_17 => ?_)
        · have E := x_pos E c_17
          refine lv_iconst (v := 1) hx hb dX4_holds_119 (by decide) ?_
          refine lv_goto (tgt := 124) hx hb dX4_holds_120 (by decide) ?_
          exact J_16 1 E  H locs ls hP hD hS (lv_sub hl [] rfl)
        · have E := x_neg E c_17
          refine lv_iload_n hx hb dX4_holds_108 rfl (lv_at hl 2 rfl) ?_
          refine lv_bipush (v := (-9)) hx hb dX4_holds_109 (by decide) ?_
          refine lv_icmp_eq (tgt := 119) hx hb dX4_holds_111 (by decide) (fun c_18 => ?_) (fun c_18 => ?_)
          · have E := x_pos E c_18
            refine lv_iconst (v := 1) hx hb dX4_holds_119 (by decide) ?_
            refine lv_goto (tgt := 124) hx hb dX4_holds_120 (by decide) ?_
            exact J_16 1 E  H locs ls hP hD hS (lv_sub hl [] rfl)
          · have E := x_neg E c_18
            refine lv_iload_n hx hb dX4_holds_114 rfl (lv_at hl 2 rfl) ?_
            refine lv_iload_n hx hb dX4_holds_115 rfl (lv_at hl 1 rfl) ?_
            refine lv_icmp_ge (tgt := 123) hx hb dX4_holds_116 (by decide) (fun c_19 => ?_) (fun c_19 => ?_)
            · have E := x_pos E c_19
              refine lv_iconst (v := 0) hx hb dX4_holds_123 (by decide) ?_
              exact J_16 0 E  H locs ls hP hD hS (lv_sub hl [] rfl)
            · have E := x_neg E c_19
              refine lv_iconst (v := 1) hx hb dX4_holds_119 (by decide) ?_
              refine lv_goto (tgt := 124) hx hb dX4_holds_120 (by decide) ?_
              exact J_16 1 E  H locs ls hP hD hS (lv_sub hl [] rfl)
    have E := E_10
    have L_23 : ∀ (n_23 : Nat) (l2_20 : Int32) (l3_21 : Int32) (k4_22 : Nat), (k4_22 ≤ 20) → ((20 - k4_22) < n_23) → o_10 = F_X4_holds_L20 t_salts t_crumbsOf t_tests n_23 l2_20 l3_21 k4_22 → ∀ (H : Heap) (locs : List Loc) (ls : Array Slot), va_P g.1 vwCl [(tA, .inr (4, [.ref rA, .ref dA, .ref cA, .ref eA, .ref mA, .ref jA, .ref tA_images, .ref tA_kept, .ref tA_heats, .ref tA_salts, .ref tA_crumbsOf, .int (nI t_tests), .long t_traced, .int t_dryWeight])), (tA_salts, .inl (g.2.1 0, 20, .inl t_salts)), (tA_crumbsOf, .inl (g.2.1 0, 20, .inl t_crumbsOf))] H → va_D A [(tA, .inr (4, [.ref rA, .ref dA, .ref cA, .ref eA, .ref mA, .ref jA, .ref tA_images, .ref tA_kept, .ref tA_heats, .ref tA_salts, .ref tA_crumbsOf, .int (nI t_tests), .long t_traced, .int t_dryWeight])), (tA_salts, .inl (g.2.1 0, 20, .inl t_salts)), (tA_crumbsOf, .inl (g.2.1 0, 20, .inl t_crumbsOf))] → va_S A s.heap H locs → lv_has ls 5 [(0, .ref tA), (1, .int (nI j_7)), (2, .int l2_20), (3, .int l3_21), (4, .int (nI k4_22))] → W p l e rX4_holds s m args below meth c H locs 0 0 Q (F0 m 20 ls []) := by
      intro n_23
      induction n_23 with
      | zero => intro l2_20 l3_21 k4_22 i_23_0 i_23_1; exact absurd i_23_1 (by omega)
      | succ n_23 ih_23 =>
        intro l2_20 l3_21 k4_22 i_23_0 i_23_1 E H locs ls hP hD hS hl
        rw [F_X4_holds_L20.eq_2] at E
        refine lv_iload hx hb dX4_holds_20 (lv_at hl 4 rfl) ?_
        refine lv_aload_n hx hb dX4_holds_22 rfl (lv_at hl 0 rfl) ?_
        refine va_get (ci := 4) (v := .int (nI t_tests)) (C := RX4) (T := TX4) (N := 14) hx hb hts inlX4 hown hK.1 hP 0 rfl rfl 11 (by decide) (hts _ kw_783) (fun _ h9 => h9) rfl dX4_holds_23 ?_
        refine x_icmp_ge (a := k4_22) (b := t_tests) (tgt := 97) hx hb (by omega) (by omega) dX4_holds_26 (by decide) (fun c_24 => ?_) (fun c_24 => ?_)
        · have E := x_pos E c_24
          exact J_10 l2_20 l3_21 E  H locs ls hP hD hS (lv_sub hl [1, 2, 3] rfl)
        · have E := x_neg E c_24
          refine lv_iload hx hb dX4_holds_29 (lv_at hl 4 rfl) ?_
          refine lv_bipush (v := 20) hx hb dX4_holds_31 (by decide) ?_
          refine x_icmp_ge (a := k4_22) (b := 20) (tgt := 97) hx hb (by omega) (by omega) dX4_holds_33 (by decide) (fun c_25 => ?_) (fun c_25 => ?_)
          · have E := x_pos E c_25
            exact J_10 l2_20 l3_21 E  H locs ls hP hD hS (lv_sub hl [1, 2, 3] rfl)
          · have E := x_neg E c_25
            refine lv_aload_n hx hb dX4_holds_36 rfl (lv_at hl 0 rfl) ?_
            refine va_get (ci := 4) (v := .ref tA_crumbsOf) (C := RX4) (T := TX4) (N := 14) hx hb hts inlX4 hown hK.1 hP 0 rfl rfl 10 (by decide) (hts _ kw_37) (fun _ h9 => h9) rfl dX4_holds_37 ?_
            refine lv_iload hx hb dX4_holds_40 (lv_at hl 4 rfl) ?_
            refine x_ialdN hx hb hK hP 2 k4_22 rfl (by omega) (by decide) dX4_holds_42 ?_
            refine lv_bipush (v := 100) hx hb dX4_holds_43 (by decide) ?_
            obtain ⟨o_28, E_28, E⟩ := x_nm_ex E
            have J_28 : ∀ (l2_26 : Int32) (l3_27 : Int32), o_28 = (l2_26, l3_27) → ∀ (H : Heap) (locs : List Loc) (ls : Array Slot), va_P g.1 vwCl [(tA, .inr (4, [.ref rA, .ref dA, .ref cA, .ref eA, .ref mA, .ref jA, .ref tA_images, .ref tA_kept, .ref tA_heats, .ref tA_salts, .ref tA_crumbsOf, .int (nI t_tests), .long t_traced, .int t_dryWeight])), (tA_salts, .inl (g.2.1 0, 20, .inl t_salts)), (tA_crumbsOf, .inl (g.2.1 0, 20, .inl t_crumbsOf))] H → va_D A [(tA, .inr (4, [.ref rA, .ref dA, .ref cA, .ref eA, .ref mA, .ref jA, .ref tA_images, .ref tA_kept, .ref tA_heats, .ref tA_salts, .ref tA_crumbsOf, .int (nI t_tests), .long t_traced, .int t_dryWeight])), (tA_salts, .inl (g.2.1 0, 20, .inl t_salts)), (tA_crumbsOf, .inl (g.2.1 0, 20, .inl t_crumbsOf))] → va_S A s.heap H locs → lv_has ls 5 [(0, .ref tA), (1, .int (nI j_7)), (2, .int l2_26), (3, .int l3_27), (4, .int (nI k4_22))] → W p l e rX4_holds s m args below meth c H locs 0 0 Q (F0 m 91 ls []) := by
              intro l2_26 l3_27 hE  H locs ls hP hD hS hl
              try rw [hE] at E
              refine lv_iinc (v := nI (k4_22 + 1)) (lv' := [(4, .int (nI (k4_22 + 1))), (0, .ref tA), (1, .int (nI j_7)), (2, .int l2_26), (3, .int l3_27)]) hx hb dX4_holds_91 hl (k := 4) rfl (nI_1 k4_22) (by decide) rfl (fun ls hl => ?_)
              refine lv_goto (tgt := 20) hx hb dX4_holds_94 (by decide) ?_
              exact ih_23 l2_26 l3_27 (k4_22 + 1) (by first | omega | assumption | exact Eq.trans (by assumption) (by assumption)) (by omega) E H locs ls hP hD hS (lv_sub hl [1, 2, 3, 4, 0] rfl)
            have E := E_28
            refine lv_icmp_gt (tgt := 79) hx hb dX4_holds_45 (by decide) (fun c_29 => ?_) (fun c_29 => ?_)
            · have E := x_pos E c_29
              refine lv_iload_n hx hb dX4_holds_79 rfl (lv_at hl 3 rfl) ?_
              refine lv_aload_n hx hb dX4_holds_80 rfl (lv_at hl 0 rfl) ?_
              refine va_get (ci := 4) (v := .ref tA_salts) (C := RX4) (T := TX4) (N := 14) hx hb hts inlX4 hown hK.1 hP 0 rfl rfl 9 (by decide) (hts _ kw_36) (fun _ h9 => h9) rfl dX4_holds_81 ?_
              refine lv_iload hx hb dX4_holds_84 (lv_at hl 4 rfl) ?_
              refine x_ialdN hx hb hK hP 1 k4_22 rfl (by omega) (by decide) dX4_holds_86 ?_
              refine va_mmax hx hb (hml.trans hl.1.symm) hown (hts _ kw_715) (hts _ kw_403) (hts _ kw_172) (hts _ kw_404) (Nat.le_of_ble_eq_true rfl) (Nat.le_of_ble_eq_true rfl) (Nat.zero_le _) (Nat.zero_le _) dX4_holds_87 ?_
              refine lv_topi (fun q_30 hq => ?_)
              have E := x_nm_eq E hq
              refine lv_istore_n (lv' := [(3, .int q_30), (0, .ref tA), (1, .int (nI j_7)), (2, .int l2_20), (4, .int (nI k4_22))]) hx hb dX4_holds_90 rfl hl (by decide) rfl (fun ls hl => ?_)
              exact J_28 l2_20 q_30 E  H locs ls hP hD hS (lv_sub hl [1, 2, 3, 0, 4] rfl)
            · have E := x_neg E c_29
              refine lv_iload_n hx hb dX4_holds_48 rfl (lv_at hl 2 rfl) ?_
              refine lv_bipush (v := (-9)) hx hb dX4_holds_49 (by decide) ?_
              obtain ⟨o_32, E_32, E⟩ := x_nm_ex E
              have J_32 : ∀ (v_31 : Int32), o_32 = v_31 → ∀ (H : Heap) (locs : List Loc) (ls : Array Slot), va_P g.1 vwCl [(tA, .inr (4, [.ref rA, .ref dA, .ref cA, .ref eA, .ref mA, .ref jA, .ref tA_images, .ref tA_kept, .ref tA_heats, .ref tA_salts, .ref tA_crumbsOf, .int (nI t_tests), .long t_traced, .int t_dryWeight])), (tA_salts, .inl (g.2.1 0, 20, .inl t_salts)), (tA_crumbsOf, .inl (g.2.1 0, 20, .inl t_crumbsOf))] H → va_D A [(tA, .inr (4, [.ref rA, .ref dA, .ref cA, .ref eA, .ref mA, .ref jA, .ref tA_images, .ref tA_kept, .ref tA_heats, .ref tA_salts, .ref tA_crumbsOf, .int (nI t_tests), .long t_traced, .int t_dryWeight])), (tA_salts, .inl (g.2.1 0, 20, .inl t_salts)), (tA_crumbsOf, .inl (g.2.1 0, 20, .inl t_crumbsOf))] → va_S A s.heap H locs → lv_has ls 5 [(0, .ref tA), (1, .int (nI j_7)), (3, .int l3_21), (4, .int (nI k4_22))] → W p l e rX4_holds s m args below meth c H locs 0 0 Q (F0 m 75 ls [.int v_31]) := by
                intro v_31 hE  H locs ls hP hD hS hl
                try rw [hE] at E
                refine lv_istore_n (lv' := [(2, .int v_31), (0, .ref tA), (1, .int (nI j_7)), (3, .int l3_21), (4, .int (nI k4_22))]) hx hb dX4_holds_75 rfl hl (by decide) rfl (fun ls hl => ?_)
                refine lv_goto (tgt := 91) hx hb dX4_holds_76 (by decide) ?_
                exact J_28 v_31 l3_21 E  H locs ls hP hD hS (lv_sub hl [1, 2, 0, 3, 4] rfl)
              have E := E_32
              refine x_icmp_neI (tgt := 64) hx hb dX4_holds_51 (by decide) (fun c_33 => ?_) (fun c_33 => ?_)
              · have E := x_neg E c_33
                refine lv_iload_n hx hb dX4_holds_64 rfl (lv_at hl 2 rfl) ?_
                refine lv_aload_n hx hb dX4_holds_65 rfl (lv_at hl 0 rfl) ?_
                refine va_get (ci := 4) (v := .ref tA_salts) (C := RX4) (T := TX4) (N := 14) hx hb hts inlX4 hown hK.1 hP 0 rfl rfl 9 (by decide) (hts _ kw_36) (fun _ h9 => h9) rfl dX4_holds_66 ?_
                refine lv_iload hx hb dX4_holds_69 (lv_at hl 4 rfl) ?_
                refine x_ialdN hx hb hK hP 1 k4_22 rfl (by omega) (by decide) dX4_holds_71 ?_
                refine va_mmin hx hb (hml.trans hl.1.symm) hown (hts _ kw_690) (hts _ kw_171) (hts _ kw_172) (hts _ kw_173) (Nat.le_of_ble_eq_true rfl) (Nat.le_of_ble_eq_true rfl) (Nat.zero_le _) (Nat.zero_le _) dX4_holds_72 ?_
                refine lv_topi (fun q_34 hq => ?_)
                have E := x_nm_eq E hq
                exact J_32 q_34 E  H locs ls hP hD hS (lv_sub hl [0, 1, 3, 4] rfl)
              · have E := x_pos E c_33
                refine lv_aload_n hx hb dX4_holds_54 rfl (lv_at hl 0 rfl) ?_
                refine va_get (ci := 4) (v := .ref tA_salts) (C := RX4) (T := TX4) (N := 14) hx hb hts inlX4 hown hK.1 hP 0 rfl rfl 9 (by decide) (hts _ kw_36) (fun _ h9 => h9) rfl dX4_holds_55 ?_
                refine lv_iload hx hb dX4_holds_58 (lv_at hl 4 rfl) ?_
                refine x_ialdN hx hb hK hP 1 k4_22 rfl (by omega) (by decide) dX4_holds_60 ?_
                refine lv_goto (tgt := 75) hx hb dX4_holds_61 (by decide) ?_
                exact J_32 (t_salts k4_22) E  H locs ls hP hD hS (lv_sub hl [0, 1, 3, 4] rfl)
    exact L_23 (20 + 1) (-9) (-9) 0 (by first | omega | assumption | rfl) (by omega) E H locs ls hP hD hS (lv_sub hl [3, 4, 2, 1, 0] rfl)
  · have E := x_neg E c_5
    refine lv_iconst (v := (-1)) hx hb dX4_holds_9 (by decide) ?_
    exact RET (-1) () H locs _ _ (E.symm.trans hO) rfl hP hD hS dX4_holds_10
abbrev rX4_tube : Room := { frames := 1, cells := 0, slots := 0, locals := 22 }
theorem vX4_tube : yX4_tube.cls = RX4 ∧ yX4_tube.cls ≠ "java/lang/invoke/MethodHandle" ∧ yX4_tube.cls ≠ "java/lang/invoke/VarHandle" ∧ (parseMethodDescriptor yX4_tube.desc).map (fun d => d.parameters.length) = some 3 := by decide +kernel
abbrev wX4_tube : List Cond := Cond.code yX4_tube cX4_tube 4 (some .int) :: wsL_law
def F_X4_tube (a1 : Int32) (a2 : Int32) (a3 : Int32) : Int32 :=
  x_nm (F_X4_outside a1 1 99) fun z_1 => if z_1 = 0 then x_nm (a1.toNatClampNeg) fun j_7 => x_nm (F_X4_outside a2 1 999) fun z_8 => if z_8 = 0 then x_nm (a2.toNatClampNeg) fun j_14 => x_nm (F_X4_outside a3 0 1) fun z_15 => if z_15 = 0 then x_nm (a3.toNatClampNeg) fun j_21 => x_nm (α := Int32) (if j_21 = 0 then nI (j_14 / j_7) else nI ((2 * j_14) / j_7)) fun u_23 => u_23 else (-1) else (-1) else (-1)
set_option maxHeartbeats 4000000 in
set_option maxRecDepth 100000 in
theorem m_X4_tube (l : Launch) (g : x_G) (tA rA dA cA eA mA jA tA_images tA_kept tA_heats tA_salts tA_crumbsOf : Nat) (t_tests : Nat) (t_traced : Int64) (t_dryWeight : Int32) (a1 : Int32) (a2 : Int32) (a3 : Int32) : x_MetI l yX4_tube wX4_tube rX4_tube g [.ref tA, .int a1, .int a2, .int a3] [(tA, .inr (4, [.ref rA, .ref dA, .ref cA, .ref eA, .ref mA, .ref jA, .ref tA_images, .ref tA_kept, .ref tA_heats, .ref tA_salts, .ref tA_crumbsOf, .int (nI t_tests), .long t_traced, .int t_dryWeight]))] (fun (r : Int32) (u : Unit) => r = F_X4_tube a1 a2 a3) (fun _ => [(tA, .inr (4, [.ref rA, .ref dA, .ref cA, .ref eA, .ref mA, .ref jA, .ref tA_images, .ref tA_kept, .ref tA_heats, .ref tA_salts, .ref tA_crumbsOf, .int (nI t_tests), .long t_traced, .int t_dryWeight]))]) := by
  refine x_startI (cc := cX4_tube) (maxL := 4) (by decide) rfl (Nat.le_of_ble_eq_true rfl) ?_
  intro p e s m args below meth c Q A ls H locs hx hb hml hown hts hK hX hP hD hS hA hl RET
  have hown : s.vm.findClass RX4 = some m.cls := hown
  have hl : lv_has ls 4 [(0, .ref tA), (1, .int a1), (2, .int a2), (3, .int a3)] := hl
  obtain ⟨o_0, hO⟩ : ∃ z, z = F_X4_tube a1 a2 a3 := ⟨_, rfl⟩
  have E := hO
  rw [F_X4_tube.eq_1] at E
  refine lv_iload_n hx hb dX4_tube_0 rfl (lv_at hl 1 rfl) ?_
  refine lv_iconst (v := 1) hx hb dX4_tube_1 (by decide) ?_
  refine lv_bipush (v := 99) hx hb dX4_tube_2 (by decide) ?_
  refine x_callS0 ⟨hx, hb, hml, hown, hts⟩ hK hX hP hD hS hA (m_X4_outside l g a1 1 99) (va_cwS 3 hts (x_gS kw_115 kw_116 kw_2 kw_117) rfl rfl rfl vX4_outsideS ⟨Nat.le_of_ble_eq_true rfl, Nat.le_of_ble_eq_true rfl⟩) rfl hl.1 rfl (Nat.le_of_ble_eq_true rfl) dX4_tube_4 ⟨Nat.zero_le _, Nat.zero_le _⟩ (fun z_1 _ H locs hw_2 hP hD hS => ?_)
  obtain ⟨hw_2, b_3⟩ := hw_2
  have E := x_nm_eq E hw_2
  refine x_if_neI (tgt := 30) hx hb dX4_tube_7 (by decide) (fun c_5 => ?_) (fun c_5 => ?_)
  · have E := x_neg E c_5
    refine lv_iconst (v := (-1)) hx hb dX4_tube_30 (by decide) ?_
    exact RET (-1) () H locs _ _ (E.symm.trans hO) rfl hP hD hS dX4_tube_31
  · have E := x_pos E c_5
    obtain ⟨j_7, hj⟩ : ∃ z, z = (a1).toNatClampNeg := ⟨_, rfl⟩
    have r_6_0 := (x_outs (lo := 1) (hi := 99) (by omega) (by omega) (hw_2.symm.trans c_5))
    rw [← hj] at r_6_0
    obtain ⟨r_6_0_a, r_6_0_b, e_6_0⟩ := r_6_0
    have E := x_nm_eq E hj
    have hl : lv_has ls 4 [(0, .ref tA), (1, .int (nI j_7)), (2, .int a2), (3, .int a3)] := by rw [e_6_0] at hl; exact hl
    refine lv_iload_n hx hb dX4_tube_10 rfl (lv_at hl 2 rfl) ?_
    refine lv_iconst (v := 1) hx hb dX4_tube_11 (by decide) ?_
    refine lv_sipush (v := 999) hx hb dX4_tube_12 (by decide) ?_
    refine x_callS0 ⟨hx, hb, hml, hown, hts⟩ hK hX hP hD hS hA (m_X4_outside l g a2 1 999) (va_cwS 3 hts (x_gS kw_115 kw_116 kw_2 kw_117) rfl rfl rfl vX4_outsideS ⟨Nat.le_of_ble_eq_true rfl, Nat.le_of_ble_eq_true rfl⟩) rfl hl.1 rfl (Nat.le_of_ble_eq_true rfl) dX4_tube_15 ⟨Nat.zero_le _, Nat.zero_le _⟩ (fun z_8 _ H locs hw_9 hP hD hS => ?_)
    obtain ⟨hw_9, b_10⟩ := hw_9
    have E := x_nm_eq E hw_9
    refine x_if_neI (tgt := 30) hx hb dX4_tube_18 (by decide) (fun c_12 => ?_) (fun c_12 => ?_)
    · have E := x_neg E c_12
      refine lv_iconst (v := (-1)) hx hb dX4_tube_30 (by decide) ?_
      exact RET (-1) () H locs _ _ (E.symm.trans hO) rfl hP hD hS dX4_tube_31
    · have E := x_pos E c_12
      obtain ⟨j_14, hj⟩ : ∃ z, z = (a2).toNatClampNeg := ⟨_, rfl⟩
      have r_13_0 := (x_outs (lo := 1) (hi := 999) (by omega) (by omega) (hw_9.symm.trans c_12))
      rw [← hj] at r_13_0
      obtain ⟨r_13_0_a, r_13_0_b, e_13_0⟩ := r_13_0
      have E := x_nm_eq E hj
      have hl : lv_has ls 4 [(0, .ref tA), (1, .int (nI j_7)), (2, .int (nI j_14)), (3, .int a3)] := by rw [e_13_0] at hl; exact hl
      refine lv_iload_n hx hb dX4_tube_21 rfl (lv_at hl 3 rfl) ?_
      refine lv_iconst (v := 0) hx hb dX4_tube_22 (by decide) ?_
      refine lv_iconst (v := 1) hx hb dX4_tube_23 (by decide) ?_
      refine x_callS0 ⟨hx, hb, hml, hown, hts⟩ hK hX hP hD hS hA (m_X4_outside l g a3 0 1) (va_cwS 3 hts (x_gS kw_115 kw_116 kw_2 kw_117) rfl rfl rfl vX4_outsideS ⟨Nat.le_of_ble_eq_true rfl, Nat.le_of_ble_eq_true rfl⟩) rfl hl.1 rfl (Nat.le_of_ble_eq_true rfl) dX4_tube_24 ⟨Nat.zero_le _, Nat.zero_le _⟩ (fun z_15 _ H locs hw_16 hP hD hS => ?_)
      obtain ⟨hw_16, b_17⟩ := hw_16
      have E := x_nm_eq E hw_16
      refine lv_if_eq (tgt := 32) hx hb dX4_tube_27 (by decide) (fun c_19 => ?_) (fun c_19 => ?_)
      · have E := x_pos E c_19
        obtain ⟨j_21, hj⟩ : ∃ z, z = (a3).toNatClampNeg := ⟨_, rfl⟩
        have r_20_0 := (x_outs (lo := 0) (hi := 1) (by omega) (by omega) (hw_16.symm.trans c_19))
        rw [← hj] at r_20_0
        obtain ⟨r_20_0_a, r_20_0_b, e_20_0⟩ := r_20_0
        have E := x_nm_eq E hj
        have hl : lv_has ls 4 [(0, .ref tA), (1, .int (nI j_7)), (2, .int (nI j_14)), (3, .int (nI j_21))] := by rw [e_20_0] at hl; exact hl
        refine lv_iload_n hx hb dX4_tube_32 rfl (lv_at hl 3 rfl) ?_
        obtain ⟨o_23, E_23, E⟩ := x_nm_ex E
        have J_23 : ∀ (v_22 : Int32), o_23 = v_22 → ∀ (H : Heap) (locs : List Loc) (ls : Array Slot), va_P g.1 vwCl [(tA, .inr (4, [.ref rA, .ref dA, .ref cA, .ref eA, .ref mA, .ref jA, .ref tA_images, .ref tA_kept, .ref tA_heats, .ref tA_salts, .ref tA_crumbsOf, .int (nI t_tests), .long t_traced, .int t_dryWeight]))] H → va_D A [(tA, .inr (4, [.ref rA, .ref dA, .ref cA, .ref eA, .ref mA, .ref jA, .ref tA_images, .ref tA_kept, .ref tA_heats, .ref tA_salts, .ref tA_crumbsOf, .int (nI t_tests), .long t_traced, .int t_dryWeight]))] → va_S A s.heap H locs → lv_has ls 4 [] → W p l e rX4_tube s m args below meth c H locs 0 0 Q (F0 m 47 ls [.int v_22]) := by
          intro v_22 hE  H locs ls hP hD hS hl
          try rw [hE] at E
          exact RET v_22 () H locs _ _ (E.symm.trans hO) rfl hP hD hS dX4_tube_47
        have E := E_23
        refine x_if_ne (a := j_21) (tgt := 42) hx hb (by omega) dX4_tube_33 (by decide) (fun c_24 => ?_) (fun c_24 => ?_)
        · have E := x_neg E c_24
          refine lv_iconst (v := 2) hx hb dX4_tube_42 (by decide) ?_
          refine lv_iload_n hx hb dX4_tube_43 rfl (lv_at hl 2 rfl) ?_
          refine lv_imul hx hb dX4_tube_44 ?_
          refine x_eqi (pk_mul 2 j_14) ?_
          refine lv_iload_n hx hb dX4_tube_45 rfl (lv_at hl 1 rfl) ?_
          refine lv_idiv hx hb dX4_tube_46 (nI_ne0 (n := j_7) (by omega) (by omega)) ?_
          refine x_eqi (pk_div (a := (2 * j_14)) (d := j_7) (by omega) (by omega) (by omega)) ?_
          exact J_23 (nI ((2 * j_14) / j_7)) E  H locs ls hP hD hS (lv_sub hl [] rfl)
        · have E := x_pos E c_24
          refine lv_iload_n hx hb dX4_tube_36 rfl (lv_at hl 2 rfl) ?_
          refine lv_iload_n hx hb dX4_tube_37 rfl (lv_at hl 1 rfl) ?_
          refine lv_idiv hx hb dX4_tube_38 (nI_ne0 (n := j_7) (by omega) (by omega)) ?_
          refine x_eqi (pk_div (a := j_14) (d := j_7) (by omega) (by omega) (by omega)) ?_
          refine lv_goto (tgt := 47) hx hb dX4_tube_39 (by decide) ?_
          exact J_23 (nI (j_14 / j_7)) E  H locs ls hP hD hS (lv_sub hl [] rfl)
      · have E := x_neg E c_19
        refine lv_iconst (v := (-1)) hx hb dX4_tube_30 (by decide) ?_
        exact RET (-1) () H locs _ _ (E.symm.trans hO) rfl hP hD hS dX4_tube_31
abbrev rX4_markEnd : Room := { frames := 0, cells := 0, slots := 0, locals := 0 }
theorem vX4_markEnd : yX4_markEnd.cls = RX4 ∧ yX4_markEnd.cls ≠ "java/lang/invoke/MethodHandle" ∧ yX4_markEnd.cls ≠ "java/lang/invoke/VarHandle" ∧ (parseMethodDescriptor yX4_markEnd.desc).map (fun d => d.parameters.length) = some 1 := by decide +kernel
abbrev wX4_markEnd : List Cond := Cond.code yX4_markEnd cX4_markEnd 2 (some .int) :: wsL_law
def F_X4_markEnd (t_traced : Int64) (m_degrees : Nat → Int32) (a1 : Nat) : Int32 × Int64 :=
  (m_degrees a1, t_traced + 1)
set_option maxHeartbeats 4000000 in
set_option maxRecDepth 100000 in
theorem m_X4_markEnd (l : Launch) (g : x_G) (tA mA mA_degrees rA dA cA eA jA tA_images tA_kept tA_heats tA_salts tA_crumbsOf mA_brown : Nat) (t_tests : Nat) (t_traced : Int64) (t_dryWeight : Int32) (m_down : Int32) (m_core : Int32) (m_water : Int32) (m_pricked : Int32) (m_thinSpots : Int32) (m_seconds : Int32) (m_gone : Int32) (m_splitAt : Int32) (m_steam : Int32) (m_degrees : Nat → Int32) (a1 : Nat) (h_0 : a1 < 4) : x_MetI l yX4_markEnd wX4_markEnd rX4_markEnd g [.ref tA, .int (nI a1)] [(tA, .inr (4, [.ref rA, .ref dA, .ref cA, .ref eA, .ref mA, .ref jA, .ref tA_images, .ref tA_kept, .ref tA_heats, .ref tA_salts, .ref tA_crumbsOf, .int (nI t_tests), .long t_traced, .int t_dryWeight])), (mA, .inr (1, [.int m_down, .ref mA_degrees, .ref mA_brown, .int m_core, .int m_water, .int m_pricked, .int m_thinSpots, .int m_seconds, .int m_gone, .int m_splitAt, .int m_steam])), (mA_degrees, .inl (g.2.1 0, 4, .inl m_degrees))] (fun (r : Int32) (u : Int64) => (r, u) = F_X4_markEnd t_traced m_degrees a1) (fun u => [(tA, .inr (4, [.ref rA, .ref dA, .ref cA, .ref eA, .ref mA, .ref jA, .ref tA_images, .ref tA_kept, .ref tA_heats, .ref tA_salts, .ref tA_crumbsOf, .int (nI t_tests), .long u, .int t_dryWeight])), (mA, .inr (1, [.int m_down, .ref mA_degrees, .ref mA_brown, .int m_core, .int m_water, .int m_pricked, .int m_thinSpots, .int m_seconds, .int m_gone, .int m_splitAt, .int m_steam])), (mA_degrees, .inl (g.2.1 0, 4, .inl m_degrees))]) := by
  refine x_startI (cc := cX4_markEnd) (maxL := 2) (by decide) rfl (Nat.le_of_ble_eq_true rfl) ?_
  intro p e s m args below meth c Q A ls H locs hx hb hml hown hts hK hX hP hD hS hA hl RET
  have hown : s.vm.findClass RX4 = some m.cls := hown
  have hl : lv_has ls 2 [(0, .ref tA), (1, .int (nI a1))] := hl
  obtain ⟨o_0, hO⟩ : ∃ z, z = F_X4_markEnd t_traced m_degrees a1 := ⟨_, rfl⟩
  have E := hO
  rw [F_X4_markEnd.eq_1] at E
  refine lv_aload_n hx hb dX4_markEnd_0 rfl (lv_at hl 0 rfl) ?_
  refine lv_dup hx hb dX4_markEnd_1 rfl ?_
  refine va_get (ci := 4) (v := .long t_traced) (C := RX4) (T := TX4) (N := 14) hx hb hts inlX4 hown hK.1 hP 0 rfl rfl 12 (by decide) (hts _ kw_815) (fun _ h9 => h9) rfl dX4_markEnd_2 ?_
  refine lv_lconst (v := 1) hx hb dX4_markEnd_5 (by decide) ?_
  refine lv_ladd hx hb dX4_markEnd_6 ?_
  refine va_put (ci := 4) (v := .long (t_traced + 1)) (ty := .long) (C := RX4) (T := TX4) (N := 14) hx hb hts inlX4 tyX4 tyX4_ok nmX4 hown hK.1 hP hD hS 0 rfl rfl 12 (by decide) (hts _ kw_815) (fun _ h9 => h9) rfl (tyX4_ok 12 (by decide)) rfl rfl (Nat.le_of_ble_eq_true rfl) dX4_markEnd_7 (fun H locs hP hD hS => ?_)
  have hP : va_P g.1 vwCl [(tA, .inr (4, [.ref rA, .ref dA, .ref cA, .ref eA, .ref mA, .ref jA, .ref tA_images, .ref tA_kept, .ref tA_heats, .ref tA_salts, .ref tA_crumbsOf, .int (nI t_tests), .long (t_traced + 1), .int t_dryWeight])), (mA, .inr (1, [.int m_down, .ref mA_degrees, .ref mA_brown, .int m_core, .int m_water, .int m_pricked, .int m_thinSpots, .int m_seconds, .int m_gone, .int m_splitAt, .int m_steam])), (mA_degrees, .inl (g.2.1 0, 4, .inl m_degrees))] H := hP
  have hD : va_D A [(tA, .inr (4, [.ref rA, .ref dA, .ref cA, .ref eA, .ref mA, .ref jA, .ref tA_images, .ref tA_kept, .ref tA_heats, .ref tA_salts, .ref tA_crumbsOf, .int (nI t_tests), .long (t_traced + 1), .int t_dryWeight])), (mA, .inr (1, [.int m_down, .ref mA_degrees, .ref mA_brown, .int m_core, .int m_water, .int m_pricked, .int m_thinSpots, .int m_seconds, .int m_gone, .int m_splitAt, .int m_steam])), (mA_degrees, .inl (g.2.1 0, 4, .inl m_degrees))] := hD
  refine lv_aload_n hx hb dX4_markEnd_10 rfl (lv_at hl 0 rfl) ?_
  refine va_get (ci := 4) (v := .ref mA) (C := RX4) (T := TX4) (N := 14) hx hb hts inlX4 hown hK.1 hP 0 rfl rfl 4 (by decide) (hts _ kw_26) (fun _ h9 => h9) rfl dX4_markEnd_11 ?_
  refine va_get (ci := 1) (v := .ref mA_degrees) (C := RX1) (T := TX1) (N := 11) hx hb hts inlX1 hown hK.1 hP 1 rfl rfl 1 (by decide) (hts _ kw_520) (fun _ h9 => h9) rfl dX4_markEnd_14 ?_
  refine lv_iload_n hx hb dX4_markEnd_17 rfl (lv_at hl 1 rfl) ?_
  refine x_ialdN hx hb hK hP 2 a1 rfl (by omega) (by decide) dX4_markEnd_18 ?_
  exact RET (m_degrees a1) (t_traced + 1) H locs _ _ (E.symm.trans hO) rfl hP hD hS dX4_markEnd_19
abbrev rX4_markWhole : Room := { frames := 1, cells := 0, slots := 0, locals := 21 }
theorem vX4_markWhole : yX4_markWhole.cls = RX4 ∧ yX4_markWhole.cls ≠ "java/lang/invoke/MethodHandle" ∧ yX4_markWhole.cls ≠ "java/lang/invoke/VarHandle" ∧ (parseMethodDescriptor yX4_markWhole.desc).map (fun d => d.parameters.length) = some 1 := by decide +kernel
abbrev wX4_markWhole : List Cond := Cond.code yX4_markWhole cX4_markWhole 2 (some .int) :: wsL_law
def F_X4_markWhole (t_traced : Int64) (m_degrees : Nat → Int32) (m_brown : Nat → Int32) (a1 : Nat) : Int32 × Int64 :=
  x_nm (F_X4_markEnd (t_traced + 10) m_degrees a1) fun u_4 => (u_4.1 + (m_brown a1), u_4.2)
set_option maxHeartbeats 4000000 in
set_option maxRecDepth 100000 in
theorem m_X4_markWhole (l : Launch) (g : x_G) (tA mA mA_degrees mA_brown rA dA cA eA jA tA_images tA_kept tA_heats tA_salts tA_crumbsOf : Nat) (t_tests : Nat) (t_traced : Int64) (t_dryWeight : Int32) (m_down : Int32) (m_core : Int32) (m_water : Int32) (m_pricked : Int32) (m_thinSpots : Int32) (m_seconds : Int32) (m_gone : Int32) (m_splitAt : Int32) (m_steam : Int32) (m_degrees : Nat → Int32) (m_brown : Nat → Int32) (a1 : Nat) (h_0 : a1 < 4) : x_MetI l yX4_markWhole wX4_markWhole rX4_markWhole g [.ref tA, .int (nI a1)] [(tA, .inr (4, [.ref rA, .ref dA, .ref cA, .ref eA, .ref mA, .ref jA, .ref tA_images, .ref tA_kept, .ref tA_heats, .ref tA_salts, .ref tA_crumbsOf, .int (nI t_tests), .long t_traced, .int t_dryWeight])), (mA, .inr (1, [.int m_down, .ref mA_degrees, .ref mA_brown, .int m_core, .int m_water, .int m_pricked, .int m_thinSpots, .int m_seconds, .int m_gone, .int m_splitAt, .int m_steam])), (mA_degrees, .inl (g.2.1 0, 4, .inl m_degrees)), (mA_brown, .inl (g.2.1 0, 4, .inl m_brown))] (fun (r : Int32) (u : Int64) => (r, u) = F_X4_markWhole t_traced m_degrees m_brown a1) (fun u => [(tA, .inr (4, [.ref rA, .ref dA, .ref cA, .ref eA, .ref mA, .ref jA, .ref tA_images, .ref tA_kept, .ref tA_heats, .ref tA_salts, .ref tA_crumbsOf, .int (nI t_tests), .long u, .int t_dryWeight])), (mA, .inr (1, [.int m_down, .ref mA_degrees, .ref mA_brown, .int m_core, .int m_water, .int m_pricked, .int m_thinSpots, .int m_seconds, .int m_gone, .int m_splitAt, .int m_steam])), (mA_degrees, .inl (g.2.1 0, 4, .inl m_degrees)), (mA_brown, .inl (g.2.1 0, 4, .inl m_brown))]) := by
  refine x_startI (cc := cX4_markWhole) (maxL := 2) (by decide) rfl (Nat.le_of_ble_eq_true rfl) ?_
  intro p e s m args below meth c Q A ls H locs hx hb hml hown hts hK hX hP hD hS hA hl RET
  have hown : s.vm.findClass RX4 = some m.cls := hown
  have hl : lv_has ls 2 [(0, .ref tA), (1, .int (nI a1))] := hl
  obtain ⟨o_0, hO⟩ : ∃ z, z = F_X4_markWhole t_traced m_degrees m_brown a1 := ⟨_, rfl⟩
  have E := hO
  rw [F_X4_markWhole.eq_1] at E
  refine lv_aload_n hx hb dX4_markWhole_0 rfl (lv_at hl 0 rfl) ?_
  refine lv_dup hx hb dX4_markWhole_1 rfl ?_
  refine va_get (ci := 4) (v := .long t_traced) (C := RX4) (T := TX4) (N := 14) hx hb hts inlX4 hown hK.1 hP 0 rfl rfl 12 (by decide) (hts _ kw_815) (fun _ h9 => h9) rfl dX4_markWhole_2 ?_
  refine lv_ldc2 (v := 10) hx hb hown (hts _ kw_820) dX4_markWhole_5 ?_
  refine lv_ladd hx hb dX4_markWhole_8 ?_
  refine va_put (ci := 4) (v := .long (t_traced + 10)) (ty := .long) (C := RX4) (T := TX4) (N := 14) hx hb hts inlX4 tyX4 tyX4_ok nmX4 hown hK.1 hP hD hS 0 rfl rfl 12 (by decide) (hts _ kw_815) (fun _ h9 => h9) rfl (tyX4_ok 12 (by decide)) rfl rfl (Nat.le_of_ble_eq_true rfl) dX4_markWhole_9 (fun H locs hP hD hS => ?_)
  have hP : va_P g.1 vwCl [(tA, .inr (4, [.ref rA, .ref dA, .ref cA, .ref eA, .ref mA, .ref jA, .ref tA_images, .ref tA_kept, .ref tA_heats, .ref tA_salts, .ref tA_crumbsOf, .int (nI t_tests), .long (t_traced + 10), .int t_dryWeight])), (mA, .inr (1, [.int m_down, .ref mA_degrees, .ref mA_brown, .int m_core, .int m_water, .int m_pricked, .int m_thinSpots, .int m_seconds, .int m_gone, .int m_splitAt, .int m_steam])), (mA_degrees, .inl (g.2.1 0, 4, .inl m_degrees)), (mA_brown, .inl (g.2.1 0, 4, .inl m_brown))] H := hP
  have hD : va_D A [(tA, .inr (4, [.ref rA, .ref dA, .ref cA, .ref eA, .ref mA, .ref jA, .ref tA_images, .ref tA_kept, .ref tA_heats, .ref tA_salts, .ref tA_crumbsOf, .int (nI t_tests), .long (t_traced + 10), .int t_dryWeight])), (mA, .inr (1, [.int m_down, .ref mA_degrees, .ref mA_brown, .int m_core, .int m_water, .int m_pricked, .int m_thinSpots, .int m_seconds, .int m_gone, .int m_splitAt, .int m_steam])), (mA_degrees, .inl (g.2.1 0, 4, .inl m_degrees)), (mA_brown, .inl (g.2.1 0, 4, .inl m_brown))] := hD
  refine lv_aload_n hx hb dX4_markWhole_12 rfl (lv_at hl 0 rfl) ?_
  refine lv_iload_n hx hb dX4_markWhole_13 rfl (lv_at hl 1 rfl) ?_
  refine x_callVi (w2 := fun u => [(tA, .inr (4, [.ref rA, .ref dA, .ref cA, .ref eA, .ref mA, .ref jA, .ref tA_images, .ref tA_kept, .ref tA_heats, .ref tA_salts, .ref tA_crumbsOf, .int (nI t_tests), .long u, .int t_dryWeight])), (mA, .inr (1, [.int m_down, .ref mA_degrees, .ref mA_brown, .int m_core, .int m_water, .int m_pricked, .int m_thinSpots, .int m_seconds, .int m_gone, .int m_splitAt, .int m_steam])), (mA_degrees, .inl (g.2.1 0, 4, .inl m_degrees)), (mA_brown, .inl (g.2.1 0, 4, .inl m_brown))]) (wr := [(mA_brown, .inl (g.2.1 0, 4, .inl m_brown))]) [0, 1, 2] [3] [1, 2, 3, 0] 0 4 ⟨hx, hb, hml, hown, hts⟩ hK hX hP hD hS hA (m_X4_markEnd l g tA mA mA_degrees rA dA cA eA jA tA_images tA_kept tA_heats tA_salts tA_crumbsOf mA_brown t_tests (t_traced + 10) t_dryWeight m_down m_core m_water m_pricked m_thinSpots m_seconds m_gone m_splitAt m_steam m_degrees a1 (by first | assumption | omega | exact x_e8 (by assumption) (by assumption))) (cwV 1 hts (x_gV kw_811 kw_812 kw_813 kw_2 kw_814) rfl rfl rfl vX4_markEnd ⟨Nat.le_of_ble_eq_true rfl, Nat.le_of_ble_eq_true rfl⟩) rfl rfl rfl rfl rfl rfl rfl (by decide) (fun _ => rfl) rfl rfl hl.1 rfl (Nat.le_of_ble_eq_true rfl) dX4_markWhole_14 ⟨Nat.zero_le _, Nat.zero_le _⟩ (fun z_2 t_traced_1 H locs hw_3 hP hD hS => ?_)
  have hP : va_P g.1 vwCl [(tA, .inr (4, [.ref rA, .ref dA, .ref cA, .ref eA, .ref mA, .ref jA, .ref tA_images, .ref tA_kept, .ref tA_heats, .ref tA_salts, .ref tA_crumbsOf, .int (nI t_tests), .long t_traced_1, .int t_dryWeight])), (mA, .inr (1, [.int m_down, .ref mA_degrees, .ref mA_brown, .int m_core, .int m_water, .int m_pricked, .int m_thinSpots, .int m_seconds, .int m_gone, .int m_splitAt, .int m_steam])), (mA_degrees, .inl (g.2.1 0, 4, .inl m_degrees)), (mA_brown, .inl (g.2.1 0, 4, .inl m_brown))] H := hP
  have hD : va_D A [(tA, .inr (4, [.ref rA, .ref dA, .ref cA, .ref eA, .ref mA, .ref jA, .ref tA_images, .ref tA_kept, .ref tA_heats, .ref tA_salts, .ref tA_crumbsOf, .int (nI t_tests), .long t_traced_1, .int t_dryWeight])), (mA, .inr (1, [.int m_down, .ref mA_degrees, .ref mA_brown, .int m_core, .int m_water, .int m_pricked, .int m_thinSpots, .int m_seconds, .int m_gone, .int m_splitAt, .int m_steam])), (mA_degrees, .inl (g.2.1 0, 4, .inl m_degrees)), (mA_brown, .inl (g.2.1 0, 4, .inl m_brown))] := hD
  have E := x_nm_eq E hw_3
  refine lv_aload_n hx hb dX4_markWhole_17 rfl (lv_at hl 0 rfl) ?_
  refine va_get (ci := 4) (v := .ref mA) (C := RX4) (T := TX4) (N := 14) hx hb hts inlX4 hown hK.1 hP 0 rfl rfl 4 (by decide) (hts _ kw_26) (fun _ h9 => h9) rfl dX4_markWhole_18 ?_
  refine va_get (ci := 1) (v := .ref mA_brown) (C := RX1) (T := TX1) (N := 11) hx hb hts inlX1 hown hK.1 hP 1 rfl rfl 2 (by decide) (hts _ kw_521) (fun _ h9 => h9) rfl dX4_markWhole_21 ?_
  refine lv_iload_n hx hb dX4_markWhole_24 rfl (lv_at hl 1 rfl) ?_
  refine x_ialdN hx hb hK hP 3 a1 rfl (by omega) (by decide) dX4_markWhole_25 ?_
  refine lv_iadd hx hb dX4_markWhole_26 ?_
  exact RET (z_2 + (m_brown a1)) t_traced_1 H locs _ _ (E.symm.trans hO) rfl hP hD hS dX4_markWhole_27
abbrev rX4_markSplit : Room := { frames := 2, cells := 0, slots := 0, locals := 43 }
theorem vX4_markSplit : yX4_markSplit.cls = RX4 ∧ yX4_markSplit.cls ≠ "java/lang/invoke/MethodHandle" ∧ yX4_markSplit.cls ≠ "java/lang/invoke/VarHandle" ∧ (parseMethodDescriptor yX4_markSplit.desc).map (fun d => d.parameters.length) = some 1 := by decide +kernel
abbrev wX4_markSplit : List Cond := Cond.code yX4_markSplit cX4_markSplit 2 (some .int) :: wsL_law
def F_X4_markSplit (t_traced : Int64) (r_filling : Int32) (m_degrees : Nat → Int32) (m_core : Int32) (m_pricked : Int32) (m_gone : Int32) (m_steam : Int32) (a1 : Nat) : Int32 × Int64 :=
  x_nm (F_X4_markEnd (t_traced + 100) m_degrees a1) fun u_4 => x_nm (F_X1_pressIn m_core m_pricked m_gone m_steam r_filling) fun z_5 => (u_4.1 - z_5, u_4.2)
set_option maxHeartbeats 4000000 in
set_option maxRecDepth 100000 in
theorem m_X4_markSplit (l : Launch) (g : x_G) (tA rA mA mA_degrees dA cA eA jA tA_images tA_kept tA_heats tA_salts tA_crumbsOf rA_kinds rA_firsts rA_seconds mA_brown : Nat) (t_tests : Nat) (t_traced : Int64) (t_dryWeight : Int32) (r_radius : Int32) (r_skin : Int32) (r_filling : Int32) (r_water : Int32) (r_ends : Int32) (r_thin : Int32) (r_chance : Int32) (r_bentFace : Int32) (r_bentBy : Int32) (r_doings : Nat) (m_down : Int32) (m_core : Int32) (m_water : Int32) (m_pricked : Int32) (m_thinSpots : Int32) (m_seconds : Int32) (m_gone : Int32) (m_splitAt : Int32) (m_steam : Int32) (m_degrees : Nat → Int32) (a1 : Nat) (h_0 : a1 < 4) : x_MetI l yX4_markSplit wX4_markSplit rX4_markSplit g [.ref tA, .int (nI a1)] [(tA, .inr (4, [.ref rA, .ref dA, .ref cA, .ref eA, .ref mA, .ref jA, .ref tA_images, .ref tA_kept, .ref tA_heats, .ref tA_salts, .ref tA_crumbsOf, .int (nI t_tests), .long t_traced, .int t_dryWeight])), (rA, .inr (3, [.int r_radius, .int r_skin, .int r_filling, .int r_water, .int r_ends, .int r_thin, .int r_chance, .int r_bentFace, .int r_bentBy, .int (nI r_doings), .ref rA_kinds, .ref rA_firsts, .ref rA_seconds])), (mA, .inr (1, [.int m_down, .ref mA_degrees, .ref mA_brown, .int m_core, .int m_water, .int m_pricked, .int m_thinSpots, .int m_seconds, .int m_gone, .int m_splitAt, .int m_steam])), (mA_degrees, .inl (g.2.1 0, 4, .inl m_degrees))] (fun (r : Int32) (u : Int64) => (r, u) = F_X4_markSplit t_traced r_filling m_degrees m_core m_pricked m_gone m_steam a1) (fun u => [(tA, .inr (4, [.ref rA, .ref dA, .ref cA, .ref eA, .ref mA, .ref jA, .ref tA_images, .ref tA_kept, .ref tA_heats, .ref tA_salts, .ref tA_crumbsOf, .int (nI t_tests), .long u, .int t_dryWeight])), (rA, .inr (3, [.int r_radius, .int r_skin, .int r_filling, .int r_water, .int r_ends, .int r_thin, .int r_chance, .int r_bentFace, .int r_bentBy, .int (nI r_doings), .ref rA_kinds, .ref rA_firsts, .ref rA_seconds])), (mA, .inr (1, [.int m_down, .ref mA_degrees, .ref mA_brown, .int m_core, .int m_water, .int m_pricked, .int m_thinSpots, .int m_seconds, .int m_gone, .int m_splitAt, .int m_steam])), (mA_degrees, .inl (g.2.1 0, 4, .inl m_degrees))]) := by
  refine x_startI (cc := cX4_markSplit) (maxL := 2) (by decide) rfl (Nat.le_of_ble_eq_true rfl) ?_
  intro p e s m args below meth c Q A ls H locs hx hb hml hown hts hK hX hP hD hS hA hl RET
  have hown : s.vm.findClass RX4 = some m.cls := hown
  have hl : lv_has ls 2 [(0, .ref tA), (1, .int (nI a1))] := hl
  obtain ⟨o_0, hO⟩ : ∃ z, z = F_X4_markSplit t_traced r_filling m_degrees m_core m_pricked m_gone m_steam a1 := ⟨_, rfl⟩
  have E := hO
  rw [F_X4_markSplit.eq_1] at E
  refine lv_aload_n hx hb dX4_markSplit_0 rfl (lv_at hl 0 rfl) ?_
  refine lv_dup hx hb dX4_markSplit_1 rfl ?_
  refine va_get (ci := 4) (v := .long t_traced) (C := RX4) (T := TX4) (N := 14) hx hb hts inlX4 hown hK.1 hP 0 rfl rfl 12 (by decide) (hts _ kw_815) (fun _ h9 => h9) rfl dX4_markSplit_2 ?_
  refine lv_ldc2 (v := 100) hx hb hown (hts _ kw_825) dX4_markSplit_5 ?_
  refine lv_ladd hx hb dX4_markSplit_8 ?_
  refine va_put (ci := 4) (v := .long (t_traced + 100)) (ty := .long) (C := RX4) (T := TX4) (N := 14) hx hb hts inlX4 tyX4 tyX4_ok nmX4 hown hK.1 hP hD hS 0 rfl rfl 12 (by decide) (hts _ kw_815) (fun _ h9 => h9) rfl (tyX4_ok 12 (by decide)) rfl rfl (Nat.le_of_ble_eq_true rfl) dX4_markSplit_9 (fun H locs hP hD hS => ?_)
  have hP : va_P g.1 vwCl [(tA, .inr (4, [.ref rA, .ref dA, .ref cA, .ref eA, .ref mA, .ref jA, .ref tA_images, .ref tA_kept, .ref tA_heats, .ref tA_salts, .ref tA_crumbsOf, .int (nI t_tests), .long (t_traced + 100), .int t_dryWeight])), (rA, .inr (3, [.int r_radius, .int r_skin, .int r_filling, .int r_water, .int r_ends, .int r_thin, .int r_chance, .int r_bentFace, .int r_bentBy, .int (nI r_doings), .ref rA_kinds, .ref rA_firsts, .ref rA_seconds])), (mA, .inr (1, [.int m_down, .ref mA_degrees, .ref mA_brown, .int m_core, .int m_water, .int m_pricked, .int m_thinSpots, .int m_seconds, .int m_gone, .int m_splitAt, .int m_steam])), (mA_degrees, .inl (g.2.1 0, 4, .inl m_degrees))] H := hP
  have hD : va_D A [(tA, .inr (4, [.ref rA, .ref dA, .ref cA, .ref eA, .ref mA, .ref jA, .ref tA_images, .ref tA_kept, .ref tA_heats, .ref tA_salts, .ref tA_crumbsOf, .int (nI t_tests), .long (t_traced + 100), .int t_dryWeight])), (rA, .inr (3, [.int r_radius, .int r_skin, .int r_filling, .int r_water, .int r_ends, .int r_thin, .int r_chance, .int r_bentFace, .int r_bentBy, .int (nI r_doings), .ref rA_kinds, .ref rA_firsts, .ref rA_seconds])), (mA, .inr (1, [.int m_down, .ref mA_degrees, .ref mA_brown, .int m_core, .int m_water, .int m_pricked, .int m_thinSpots, .int m_seconds, .int m_gone, .int m_splitAt, .int m_steam])), (mA_degrees, .inl (g.2.1 0, 4, .inl m_degrees))] := hD
  refine lv_aload_n hx hb dX4_markSplit_12 rfl (lv_at hl 0 rfl) ?_
  refine lv_iload_n hx hb dX4_markSplit_13 rfl (lv_at hl 1 rfl) ?_
  refine x_callVi (w2 := fun u => [(tA, .inr (4, [.ref rA, .ref dA, .ref cA, .ref eA, .ref mA, .ref jA, .ref tA_images, .ref tA_kept, .ref tA_heats, .ref tA_salts, .ref tA_crumbsOf, .int (nI t_tests), .long u, .int t_dryWeight])), (rA, .inr (3, [.int r_radius, .int r_skin, .int r_filling, .int r_water, .int r_ends, .int r_thin, .int r_chance, .int r_bentFace, .int r_bentBy, .int (nI r_doings), .ref rA_kinds, .ref rA_firsts, .ref rA_seconds])), (mA, .inr (1, [.int m_down, .ref mA_degrees, .ref mA_brown, .int m_core, .int m_water, .int m_pricked, .int m_thinSpots, .int m_seconds, .int m_gone, .int m_splitAt, .int m_steam])), (mA_degrees, .inl (g.2.1 0, 4, .inl m_degrees))]) (wr := [(rA, .inr (3, [.int r_radius, .int r_skin, .int r_filling, .int r_water, .int r_ends, .int r_thin, .int r_chance, .int r_bentFace, .int r_bentBy, .int (nI r_doings), .ref rA_kinds, .ref rA_firsts, .ref rA_seconds]))]) [0, 2, 3] [1] [1, 0, 2, 3] 0 4 ⟨hx, hb, hml, hown, hts⟩ hK hX hP hD hS hA (m_X4_markEnd l g tA mA mA_degrees rA dA cA eA jA tA_images tA_kept tA_heats tA_salts tA_crumbsOf mA_brown t_tests (t_traced + 100) t_dryWeight m_down m_core m_water m_pricked m_thinSpots m_seconds m_gone m_splitAt m_steam m_degrees a1 (by first | assumption | omega | exact x_e8 (by assumption) (by assumption))) (cwV 1 hts (x_gV kw_811 kw_812 kw_813 kw_2 kw_814) rfl rfl rfl vX4_markEnd ⟨Nat.le_of_ble_eq_true rfl, Nat.le_of_ble_eq_true rfl⟩) rfl rfl rfl rfl rfl rfl rfl (by decide) (fun _ => rfl) rfl rfl hl.1 rfl (Nat.le_of_ble_eq_true rfl) dX4_markSplit_14 ⟨Nat.zero_le _, Nat.zero_le _⟩ (fun z_2 t_traced_1 H locs hw_3 hP hD hS => ?_)
  have hP : va_P g.1 vwCl [(tA, .inr (4, [.ref rA, .ref dA, .ref cA, .ref eA, .ref mA, .ref jA, .ref tA_images, .ref tA_kept, .ref tA_heats, .ref tA_salts, .ref tA_crumbsOf, .int (nI t_tests), .long t_traced_1, .int t_dryWeight])), (rA, .inr (3, [.int r_radius, .int r_skin, .int r_filling, .int r_water, .int r_ends, .int r_thin, .int r_chance, .int r_bentFace, .int r_bentBy, .int (nI r_doings), .ref rA_kinds, .ref rA_firsts, .ref rA_seconds])), (mA, .inr (1, [.int m_down, .ref mA_degrees, .ref mA_brown, .int m_core, .int m_water, .int m_pricked, .int m_thinSpots, .int m_seconds, .int m_gone, .int m_splitAt, .int m_steam])), (mA_degrees, .inl (g.2.1 0, 4, .inl m_degrees))] H := hP
  have hD : va_D A [(tA, .inr (4, [.ref rA, .ref dA, .ref cA, .ref eA, .ref mA, .ref jA, .ref tA_images, .ref tA_kept, .ref tA_heats, .ref tA_salts, .ref tA_crumbsOf, .int (nI t_tests), .long t_traced_1, .int t_dryWeight])), (rA, .inr (3, [.int r_radius, .int r_skin, .int r_filling, .int r_water, .int r_ends, .int r_thin, .int r_chance, .int r_bentFace, .int r_bentBy, .int (nI r_doings), .ref rA_kinds, .ref rA_firsts, .ref rA_seconds])), (mA, .inr (1, [.int m_down, .ref mA_degrees, .ref mA_brown, .int m_core, .int m_water, .int m_pricked, .int m_thinSpots, .int m_seconds, .int m_gone, .int m_splitAt, .int m_steam])), (mA_degrees, .inl (g.2.1 0, 4, .inl m_degrees))] := hD
  have E := x_nm_eq E hw_3
  refine lv_aload_n hx hb dX4_markSplit_17 rfl (lv_at hl 0 rfl) ?_
  refine va_get (ci := 4) (v := .ref mA) (C := RX4) (T := TX4) (N := 14) hx hb hts inlX4 hown hK.1 hP 0 rfl rfl 4 (by decide) (hts _ kw_26) (fun _ h9 => h9) rfl dX4_markSplit_18 ?_
  refine lv_aload_n hx hb dX4_markSplit_21 rfl (lv_at hl 0 rfl) ?_
  refine va_get (ci := 4) (v := .ref rA) (C := RX4) (T := TX4) (N := 14) hx hb hts inlX4 hown hK.1 hP 0 rfl rfl 0 (by decide) (hts _ kw_16) (fun _ h9 => h9) rfl dX4_markSplit_22 ?_
  refine x_callVi (w2 := fun u => [(tA, .inr (4, [.ref rA, .ref dA, .ref cA, .ref eA, .ref mA, .ref jA, .ref tA_images, .ref tA_kept, .ref tA_heats, .ref tA_salts, .ref tA_crumbsOf, .int (nI t_tests), .long t_traced_1, .int t_dryWeight])), (rA, .inr (3, [.int r_radius, .int r_skin, .int r_filling, .int r_water, .int r_ends, .int r_thin, .int r_chance, .int r_bentFace, .int r_bentBy, .int (nI r_doings), .ref rA_kinds, .ref rA_firsts, .ref rA_seconds])), (mA, .inr (1, [.int m_down, .ref mA_degrees, .ref mA_brown, .int m_core, .int m_water, .int m_pricked, .int m_thinSpots, .int m_seconds, .int m_gone, .int m_splitAt, .int m_steam])), (mA_degrees, .inl (g.2.1 0, 4, .inl m_degrees))]) (wr := [(tA, .inr (4, [.ref rA, .ref dA, .ref cA, .ref eA, .ref mA, .ref jA, .ref tA_images, .ref tA_kept, .ref tA_heats, .ref tA_salts, .ref tA_crumbsOf, .int (nI t_tests), .long t_traced_1, .int t_dryWeight])), (mA_degrees, .inl (g.2.1 0, 4, .inl m_degrees))]) [2, 1] [0, 3] [0, 3, 2, 1] 2 1 ⟨hx, hb, hml, hown, hts⟩ hK hX hP hD hS hA (m_X1_pressIn l g mA rA mA_degrees mA_brown rA_kinds rA_firsts rA_seconds m_down m_core m_water m_pricked m_thinSpots m_seconds m_gone m_splitAt m_steam r_radius r_skin r_filling r_water r_ends r_thin r_chance r_bentFace r_bentBy r_doings) (cwV 1 hts (x_gV kw_523 kw_415 kw_416 kw_25 kw_417) rfl rfl rfl vX1_pressIn ⟨Nat.le_of_ble_eq_true rfl, Nat.le_of_ble_eq_true rfl⟩) rfl rfl rfl rfl rfl rfl rfl (by decide) (fun _ => rfl) rfl rfl hl.1 rfl (Nat.le_of_ble_eq_true rfl) dX4_markSplit_25 ⟨Nat.zero_le _, Nat.zero_le _⟩ (fun z_5 _ H locs hw_6 hP hD hS => ?_)
  have E := x_nm_eq E hw_6
  refine lv_isub hx hb dX4_markSplit_28 ?_
  exact RET (z_2 - z_5) t_traced_1 H locs _ _ (E.symm.trans hO) rfl hP hD hS dX4_markSplit_29
abbrev rX4_markCurled : Room := { frames := 3, cells := 0, slots := 0, locals := 64 }
theorem vX4_markCurled : yX4_markCurled.cls = RX4 ∧ yX4_markCurled.cls ≠ "java/lang/invoke/MethodHandle" ∧ yX4_markCurled.cls ≠ "java/lang/invoke/VarHandle" ∧ (parseMethodDescriptor yX4_markCurled.desc).map (fun d => d.parameters.length) = some 1 := by decide +kernel
abbrev wX4_markCurled : List Cond := Cond.code yX4_markCurled cX4_markCurled 2 (some .int) :: wsL_law
def F_X4_markCurled (t_traced : Int64) (r_filling : Int32) (m_degrees : Nat → Int32) (m_core : Int32) (m_pricked : Int32) (m_gone : Int32) (m_steam : Int32) (a1 : Nat) : Int32 × Int64 :=
  x_nm (F_X4_markSplit (t_traced + 1000) r_filling m_degrees m_core m_pricked m_gone m_steam a1) fun u_4 => (u_4.1 * 2, u_4.2)
set_option maxHeartbeats 4000000 in
set_option maxRecDepth 100000 in
theorem m_X4_markCurled (l : Launch) (g : x_G) (tA rA mA mA_degrees dA cA eA jA tA_images tA_kept tA_heats tA_salts tA_crumbsOf rA_kinds rA_firsts rA_seconds mA_brown : Nat) (t_tests : Nat) (t_traced : Int64) (t_dryWeight : Int32) (r_radius : Int32) (r_skin : Int32) (r_filling : Int32) (r_water : Int32) (r_ends : Int32) (r_thin : Int32) (r_chance : Int32) (r_bentFace : Int32) (r_bentBy : Int32) (r_doings : Nat) (m_down : Int32) (m_core : Int32) (m_water : Int32) (m_pricked : Int32) (m_thinSpots : Int32) (m_seconds : Int32) (m_gone : Int32) (m_splitAt : Int32) (m_steam : Int32) (m_degrees : Nat → Int32) (a1 : Nat) (h_0 : a1 < 4) : x_MetI l yX4_markCurled wX4_markCurled rX4_markCurled g [.ref tA, .int (nI a1)] [(tA, .inr (4, [.ref rA, .ref dA, .ref cA, .ref eA, .ref mA, .ref jA, .ref tA_images, .ref tA_kept, .ref tA_heats, .ref tA_salts, .ref tA_crumbsOf, .int (nI t_tests), .long t_traced, .int t_dryWeight])), (rA, .inr (3, [.int r_radius, .int r_skin, .int r_filling, .int r_water, .int r_ends, .int r_thin, .int r_chance, .int r_bentFace, .int r_bentBy, .int (nI r_doings), .ref rA_kinds, .ref rA_firsts, .ref rA_seconds])), (mA, .inr (1, [.int m_down, .ref mA_degrees, .ref mA_brown, .int m_core, .int m_water, .int m_pricked, .int m_thinSpots, .int m_seconds, .int m_gone, .int m_splitAt, .int m_steam])), (mA_degrees, .inl (g.2.1 0, 4, .inl m_degrees))] (fun (r : Int32) (u : Int64) => (r, u) = F_X4_markCurled t_traced r_filling m_degrees m_core m_pricked m_gone m_steam a1) (fun u => [(tA, .inr (4, [.ref rA, .ref dA, .ref cA, .ref eA, .ref mA, .ref jA, .ref tA_images, .ref tA_kept, .ref tA_heats, .ref tA_salts, .ref tA_crumbsOf, .int (nI t_tests), .long u, .int t_dryWeight])), (rA, .inr (3, [.int r_radius, .int r_skin, .int r_filling, .int r_water, .int r_ends, .int r_thin, .int r_chance, .int r_bentFace, .int r_bentBy, .int (nI r_doings), .ref rA_kinds, .ref rA_firsts, .ref rA_seconds])), (mA, .inr (1, [.int m_down, .ref mA_degrees, .ref mA_brown, .int m_core, .int m_water, .int m_pricked, .int m_thinSpots, .int m_seconds, .int m_gone, .int m_splitAt, .int m_steam])), (mA_degrees, .inl (g.2.1 0, 4, .inl m_degrees))]) := by
  refine x_startI (cc := cX4_markCurled) (maxL := 2) (by decide) rfl (Nat.le_of_ble_eq_true rfl) ?_
  intro p e s m args below meth c Q A ls H locs hx hb hml hown hts hK hX hP hD hS hA hl RET
  have hown : s.vm.findClass RX4 = some m.cls := hown
  have hl : lv_has ls 2 [(0, .ref tA), (1, .int (nI a1))] := hl
  obtain ⟨o_0, hO⟩ : ∃ z, z = F_X4_markCurled t_traced r_filling m_degrees m_core m_pricked m_gone m_steam a1 := ⟨_, rfl⟩
  have E := hO
  rw [F_X4_markCurled.eq_1] at E
  refine lv_aload_n hx hb dX4_markCurled_0 rfl (lv_at hl 0 rfl) ?_
  refine lv_dup hx hb dX4_markCurled_1 rfl ?_
  refine va_get (ci := 4) (v := .long t_traced) (C := RX4) (T := TX4) (N := 14) hx hb hts inlX4 hown hK.1 hP 0 rfl rfl 12 (by decide) (hts _ kw_815) (fun _ h9 => h9) rfl dX4_markCurled_2 ?_
  refine lv_ldc2 (v := 1000) hx hb hown (hts _ kw_830) dX4_markCurled_5 ?_
  refine lv_ladd hx hb dX4_markCurled_8 ?_
  refine va_put (ci := 4) (v := .long (t_traced + 1000)) (ty := .long) (C := RX4) (T := TX4) (N := 14) hx hb hts inlX4 tyX4 tyX4_ok nmX4 hown hK.1 hP hD hS 0 rfl rfl 12 (by decide) (hts _ kw_815) (fun _ h9 => h9) rfl (tyX4_ok 12 (by decide)) rfl rfl (Nat.le_of_ble_eq_true rfl) dX4_markCurled_9 (fun H locs hP hD hS => ?_)
  have hP : va_P g.1 vwCl [(tA, .inr (4, [.ref rA, .ref dA, .ref cA, .ref eA, .ref mA, .ref jA, .ref tA_images, .ref tA_kept, .ref tA_heats, .ref tA_salts, .ref tA_crumbsOf, .int (nI t_tests), .long (t_traced + 1000), .int t_dryWeight])), (rA, .inr (3, [.int r_radius, .int r_skin, .int r_filling, .int r_water, .int r_ends, .int r_thin, .int r_chance, .int r_bentFace, .int r_bentBy, .int (nI r_doings), .ref rA_kinds, .ref rA_firsts, .ref rA_seconds])), (mA, .inr (1, [.int m_down, .ref mA_degrees, .ref mA_brown, .int m_core, .int m_water, .int m_pricked, .int m_thinSpots, .int m_seconds, .int m_gone, .int m_splitAt, .int m_steam])), (mA_degrees, .inl (g.2.1 0, 4, .inl m_degrees))] H := hP
  have hD : va_D A [(tA, .inr (4, [.ref rA, .ref dA, .ref cA, .ref eA, .ref mA, .ref jA, .ref tA_images, .ref tA_kept, .ref tA_heats, .ref tA_salts, .ref tA_crumbsOf, .int (nI t_tests), .long (t_traced + 1000), .int t_dryWeight])), (rA, .inr (3, [.int r_radius, .int r_skin, .int r_filling, .int r_water, .int r_ends, .int r_thin, .int r_chance, .int r_bentFace, .int r_bentBy, .int (nI r_doings), .ref rA_kinds, .ref rA_firsts, .ref rA_seconds])), (mA, .inr (1, [.int m_down, .ref mA_degrees, .ref mA_brown, .int m_core, .int m_water, .int m_pricked, .int m_thinSpots, .int m_seconds, .int m_gone, .int m_splitAt, .int m_steam])), (mA_degrees, .inl (g.2.1 0, 4, .inl m_degrees))] := hD
  refine lv_aload_n hx hb dX4_markCurled_12 rfl (lv_at hl 0 rfl) ?_
  refine lv_iload_n hx hb dX4_markCurled_13 rfl (lv_at hl 1 rfl) ?_
  refine x_callVi (w2 := fun u => [(tA, .inr (4, [.ref rA, .ref dA, .ref cA, .ref eA, .ref mA, .ref jA, .ref tA_images, .ref tA_kept, .ref tA_heats, .ref tA_salts, .ref tA_crumbsOf, .int (nI t_tests), .long u, .int t_dryWeight])), (rA, .inr (3, [.int r_radius, .int r_skin, .int r_filling, .int r_water, .int r_ends, .int r_thin, .int r_chance, .int r_bentFace, .int r_bentBy, .int (nI r_doings), .ref rA_kinds, .ref rA_firsts, .ref rA_seconds])), (mA, .inr (1, [.int m_down, .ref mA_degrees, .ref mA_brown, .int m_core, .int m_water, .int m_pricked, .int m_thinSpots, .int m_seconds, .int m_gone, .int m_splitAt, .int m_steam])), (mA_degrees, .inl (g.2.1 0, 4, .inl m_degrees))]) (wr := []) [0, 1, 2, 3] [] [0, 1, 2, 3] 0 4 ⟨hx, hb, hml, hown, hts⟩ hK hX hP hD hS hA (m_X4_markSplit l g tA rA mA mA_degrees dA cA eA jA tA_images tA_kept tA_heats tA_salts tA_crumbsOf rA_kinds rA_firsts rA_seconds mA_brown t_tests (t_traced + 1000) t_dryWeight r_radius r_skin r_filling r_water r_ends r_thin r_chance r_bentFace r_bentBy r_doings m_down m_core m_water m_pricked m_thinSpots m_seconds m_gone m_splitAt m_steam m_degrees a1 (by first | assumption | omega | exact x_e8 (by assumption) (by assumption))) (cwV 1 hts (x_gV kw_821 kw_822 kw_823 kw_2 kw_824) rfl rfl rfl vX4_markSplit ⟨Nat.le_of_ble_eq_true rfl, Nat.le_of_ble_eq_true rfl⟩) rfl rfl rfl rfl rfl rfl rfl (by decide) (fun _ => rfl) rfl rfl hl.1 rfl (Nat.le_of_ble_eq_true rfl) dX4_markCurled_14 ⟨Nat.zero_le _, Nat.zero_le _⟩ (fun z_2 t_traced_1 H locs hw_3 hP hD hS => ?_)
  have hP : va_P g.1 vwCl [(tA, .inr (4, [.ref rA, .ref dA, .ref cA, .ref eA, .ref mA, .ref jA, .ref tA_images, .ref tA_kept, .ref tA_heats, .ref tA_salts, .ref tA_crumbsOf, .int (nI t_tests), .long t_traced_1, .int t_dryWeight])), (rA, .inr (3, [.int r_radius, .int r_skin, .int r_filling, .int r_water, .int r_ends, .int r_thin, .int r_chance, .int r_bentFace, .int r_bentBy, .int (nI r_doings), .ref rA_kinds, .ref rA_firsts, .ref rA_seconds])), (mA, .inr (1, [.int m_down, .ref mA_degrees, .ref mA_brown, .int m_core, .int m_water, .int m_pricked, .int m_thinSpots, .int m_seconds, .int m_gone, .int m_splitAt, .int m_steam])), (mA_degrees, .inl (g.2.1 0, 4, .inl m_degrees))] H := hP
  have hD : va_D A [(tA, .inr (4, [.ref rA, .ref dA, .ref cA, .ref eA, .ref mA, .ref jA, .ref tA_images, .ref tA_kept, .ref tA_heats, .ref tA_salts, .ref tA_crumbsOf, .int (nI t_tests), .long t_traced_1, .int t_dryWeight])), (rA, .inr (3, [.int r_radius, .int r_skin, .int r_filling, .int r_water, .int r_ends, .int r_thin, .int r_chance, .int r_bentFace, .int r_bentBy, .int (nI r_doings), .ref rA_kinds, .ref rA_firsts, .ref rA_seconds])), (mA, .inr (1, [.int m_down, .ref mA_degrees, .ref mA_brown, .int m_core, .int m_water, .int m_pricked, .int m_thinSpots, .int m_seconds, .int m_gone, .int m_splitAt, .int m_steam])), (mA_degrees, .inl (g.2.1 0, 4, .inl m_degrees))] := hD
  have E := x_nm_eq E hw_3
  refine lv_iconst (v := 2) hx hb dX4_markCurled_17 (by decide) ?_
  refine lv_imul hx hb dX4_markCurled_18 ?_
  exact RET (z_2 * 2) t_traced_1 H locs _ _ (E.symm.trans hO) rfl hP hD hS dX4_markCurled_19
abbrev rX4_markPale : Room := { frames := 2, cells := 0, slots := 0, locals := 42 }
theorem vX4_markPale : yX4_markPale.cls = RX4 ∧ yX4_markPale.cls ≠ "java/lang/invoke/MethodHandle" ∧ yX4_markPale.cls ≠ "java/lang/invoke/VarHandle" ∧ (parseMethodDescriptor yX4_markPale.desc).map (fun d => d.parameters.length) = some 1 := by decide +kernel
abbrev wX4_markPale : List Cond := Cond.code yX4_markPale cX4_markPale 2 (some .int) :: wsL_law
def F_X4_markPale (t_traced : Int64) (m_degrees : Nat → Int32) (m_brown : Nat → Int32) (m_core : Int32) (a1 : Nat) : Int32 × Int64 :=
  x_nm (F_X4_markWhole (t_traced + 10000) m_degrees m_brown a1) fun u_4 => (u_4.1 - m_core, u_4.2)
set_option maxHeartbeats 4000000 in
set_option maxRecDepth 100000 in
theorem m_X4_markPale (l : Launch) (g : x_G) (tA mA mA_degrees mA_brown rA dA cA eA jA tA_images tA_kept tA_heats tA_salts tA_crumbsOf : Nat) (t_tests : Nat) (t_traced : Int64) (t_dryWeight : Int32) (m_down : Int32) (m_core : Int32) (m_water : Int32) (m_pricked : Int32) (m_thinSpots : Int32) (m_seconds : Int32) (m_gone : Int32) (m_splitAt : Int32) (m_steam : Int32) (m_degrees : Nat → Int32) (m_brown : Nat → Int32) (a1 : Nat) (h_0 : a1 < 4) : x_MetI l yX4_markPale wX4_markPale rX4_markPale g [.ref tA, .int (nI a1)] [(tA, .inr (4, [.ref rA, .ref dA, .ref cA, .ref eA, .ref mA, .ref jA, .ref tA_images, .ref tA_kept, .ref tA_heats, .ref tA_salts, .ref tA_crumbsOf, .int (nI t_tests), .long t_traced, .int t_dryWeight])), (mA, .inr (1, [.int m_down, .ref mA_degrees, .ref mA_brown, .int m_core, .int m_water, .int m_pricked, .int m_thinSpots, .int m_seconds, .int m_gone, .int m_splitAt, .int m_steam])), (mA_degrees, .inl (g.2.1 0, 4, .inl m_degrees)), (mA_brown, .inl (g.2.1 0, 4, .inl m_brown))] (fun (r : Int32) (u : Int64) => (r, u) = F_X4_markPale t_traced m_degrees m_brown m_core a1) (fun u => [(tA, .inr (4, [.ref rA, .ref dA, .ref cA, .ref eA, .ref mA, .ref jA, .ref tA_images, .ref tA_kept, .ref tA_heats, .ref tA_salts, .ref tA_crumbsOf, .int (nI t_tests), .long u, .int t_dryWeight])), (mA, .inr (1, [.int m_down, .ref mA_degrees, .ref mA_brown, .int m_core, .int m_water, .int m_pricked, .int m_thinSpots, .int m_seconds, .int m_gone, .int m_splitAt, .int m_steam])), (mA_degrees, .inl (g.2.1 0, 4, .inl m_degrees)), (mA_brown, .inl (g.2.1 0, 4, .inl m_brown))]) := by
  refine x_startI (cc := cX4_markPale) (maxL := 2) (by decide) rfl (Nat.le_of_ble_eq_true rfl) ?_
  intro p e s m args below meth c Q A ls H locs hx hb hml hown hts hK hX hP hD hS hA hl RET
  have hown : s.vm.findClass RX4 = some m.cls := hown
  have hl : lv_has ls 2 [(0, .ref tA), (1, .int (nI a1))] := hl
  obtain ⟨o_0, hO⟩ : ∃ z, z = F_X4_markPale t_traced m_degrees m_brown m_core a1 := ⟨_, rfl⟩
  have E := hO
  rw [F_X4_markPale.eq_1] at E
  refine lv_aload_n hx hb dX4_markPale_0 rfl (lv_at hl 0 rfl) ?_
  refine lv_dup hx hb dX4_markPale_1 rfl ?_
  refine va_get (ci := 4) (v := .long t_traced) (C := RX4) (T := TX4) (N := 14) hx hb hts inlX4 hown hK.1 hP 0 rfl rfl 12 (by decide) (hts _ kw_815) (fun _ h9 => h9) rfl dX4_markPale_2 ?_
  refine lv_ldc2 (v := 10000) hx hb hown (hts _ kw_835) dX4_markPale_5 ?_
  refine lv_ladd hx hb dX4_markPale_8 ?_
  refine va_put (ci := 4) (v := .long (t_traced + 10000)) (ty := .long) (C := RX4) (T := TX4) (N := 14) hx hb hts inlX4 tyX4 tyX4_ok nmX4 hown hK.1 hP hD hS 0 rfl rfl 12 (by decide) (hts _ kw_815) (fun _ h9 => h9) rfl (tyX4_ok 12 (by decide)) rfl rfl (Nat.le_of_ble_eq_true rfl) dX4_markPale_9 (fun H locs hP hD hS => ?_)
  have hP : va_P g.1 vwCl [(tA, .inr (4, [.ref rA, .ref dA, .ref cA, .ref eA, .ref mA, .ref jA, .ref tA_images, .ref tA_kept, .ref tA_heats, .ref tA_salts, .ref tA_crumbsOf, .int (nI t_tests), .long (t_traced + 10000), .int t_dryWeight])), (mA, .inr (1, [.int m_down, .ref mA_degrees, .ref mA_brown, .int m_core, .int m_water, .int m_pricked, .int m_thinSpots, .int m_seconds, .int m_gone, .int m_splitAt, .int m_steam])), (mA_degrees, .inl (g.2.1 0, 4, .inl m_degrees)), (mA_brown, .inl (g.2.1 0, 4, .inl m_brown))] H := hP
  have hD : va_D A [(tA, .inr (4, [.ref rA, .ref dA, .ref cA, .ref eA, .ref mA, .ref jA, .ref tA_images, .ref tA_kept, .ref tA_heats, .ref tA_salts, .ref tA_crumbsOf, .int (nI t_tests), .long (t_traced + 10000), .int t_dryWeight])), (mA, .inr (1, [.int m_down, .ref mA_degrees, .ref mA_brown, .int m_core, .int m_water, .int m_pricked, .int m_thinSpots, .int m_seconds, .int m_gone, .int m_splitAt, .int m_steam])), (mA_degrees, .inl (g.2.1 0, 4, .inl m_degrees)), (mA_brown, .inl (g.2.1 0, 4, .inl m_brown))] := hD
  refine lv_aload_n hx hb dX4_markPale_12 rfl (lv_at hl 0 rfl) ?_
  refine lv_iload_n hx hb dX4_markPale_13 rfl (lv_at hl 1 rfl) ?_
  refine x_callVi (w2 := fun u => [(tA, .inr (4, [.ref rA, .ref dA, .ref cA, .ref eA, .ref mA, .ref jA, .ref tA_images, .ref tA_kept, .ref tA_heats, .ref tA_salts, .ref tA_crumbsOf, .int (nI t_tests), .long u, .int t_dryWeight])), (mA, .inr (1, [.int m_down, .ref mA_degrees, .ref mA_brown, .int m_core, .int m_water, .int m_pricked, .int m_thinSpots, .int m_seconds, .int m_gone, .int m_splitAt, .int m_steam])), (mA_degrees, .inl (g.2.1 0, 4, .inl m_degrees)), (mA_brown, .inl (g.2.1 0, 4, .inl m_brown))]) (wr := []) [0, 1, 2, 3] [] [0, 1, 2, 3] 0 4 ⟨hx, hb, hml, hown, hts⟩ hK hX hP hD hS hA (m_X4_markWhole l g tA mA mA_degrees mA_brown rA dA cA eA jA tA_images tA_kept tA_heats tA_salts tA_crumbsOf t_tests (t_traced + 10000) t_dryWeight m_down m_core m_water m_pricked m_thinSpots m_seconds m_gone m_splitAt m_steam m_degrees m_brown a1 (by first | assumption | omega | exact x_e8 (by assumption) (by assumption))) (cwV 1 hts (x_gV kw_816 kw_817 kw_818 kw_2 kw_819) rfl rfl rfl vX4_markWhole ⟨Nat.le_of_ble_eq_true rfl, Nat.le_of_ble_eq_true rfl⟩) rfl rfl rfl rfl rfl rfl rfl (by decide) (fun _ => rfl) rfl rfl hl.1 rfl (Nat.le_of_ble_eq_true rfl) dX4_markPale_14 ⟨Nat.zero_le _, Nat.zero_le _⟩ (fun z_2 t_traced_1 H locs hw_3 hP hD hS => ?_)
  have hP : va_P g.1 vwCl [(tA, .inr (4, [.ref rA, .ref dA, .ref cA, .ref eA, .ref mA, .ref jA, .ref tA_images, .ref tA_kept, .ref tA_heats, .ref tA_salts, .ref tA_crumbsOf, .int (nI t_tests), .long t_traced_1, .int t_dryWeight])), (mA, .inr (1, [.int m_down, .ref mA_degrees, .ref mA_brown, .int m_core, .int m_water, .int m_pricked, .int m_thinSpots, .int m_seconds, .int m_gone, .int m_splitAt, .int m_steam])), (mA_degrees, .inl (g.2.1 0, 4, .inl m_degrees)), (mA_brown, .inl (g.2.1 0, 4, .inl m_brown))] H := hP
  have hD : va_D A [(tA, .inr (4, [.ref rA, .ref dA, .ref cA, .ref eA, .ref mA, .ref jA, .ref tA_images, .ref tA_kept, .ref tA_heats, .ref tA_salts, .ref tA_crumbsOf, .int (nI t_tests), .long t_traced_1, .int t_dryWeight])), (mA, .inr (1, [.int m_down, .ref mA_degrees, .ref mA_brown, .int m_core, .int m_water, .int m_pricked, .int m_thinSpots, .int m_seconds, .int m_gone, .int m_splitAt, .int m_steam])), (mA_degrees, .inl (g.2.1 0, 4, .inl m_degrees)), (mA_brown, .inl (g.2.1 0, 4, .inl m_brown))] := hD
  have E := x_nm_eq E hw_3
  refine lv_aload_n hx hb dX4_markPale_17 rfl (lv_at hl 0 rfl) ?_
  refine va_get (ci := 4) (v := .ref mA) (C := RX4) (T := TX4) (N := 14) hx hb hts inlX4 hown hK.1 hP 0 rfl rfl 4 (by decide) (hts _ kw_26) (fun _ h9 => h9) rfl dX4_markPale_18 ?_
  refine va_get (ci := 1) (v := .int m_core) (C := RX1) (T := TX1) (N := 11) hx hb hts inlX1 hown hK.1 hP 1 rfl rfl 3 (by decide) (hts _ kw_533) (fun _ h9 => h9) rfl dX4_markPale_21 ?_
  refine lv_isub hx hb dX4_markPale_24 ?_
  exact RET (z_2 - m_core) t_traced_1 H locs _ _ (E.symm.trans hO) rfl hP hD hS dX4_markPale_25
abbrev rX4_markDried : Room := { frames := 1, cells := 0, slots := 0, locals := 21 }
theorem vX4_markDried : yX4_markDried.cls = RX4 ∧ yX4_markDried.cls ≠ "java/lang/invoke/MethodHandle" ∧ yX4_markDried.cls ≠ "java/lang/invoke/VarHandle" ∧ (parseMethodDescriptor yX4_markDried.desc).map (fun d => d.parameters.length) = some 1 := by decide +kernel
abbrev wX4_markDried : List Cond := Cond.code yX4_markDried cX4_markDried 2 (some .int) :: wsL_law
def F_X4_markDried (t_traced : Int64) (m_degrees : Nat → Int32) (m_water : Int32) (a1 : Nat) : Int32 × Int64 :=
  x_nm (F_X4_markEnd (t_traced + 100000) m_degrees a1) fun u_4 => (u_4.1 + m_water, u_4.2)
set_option maxHeartbeats 4000000 in
set_option maxRecDepth 100000 in
theorem m_X4_markDried (l : Launch) (g : x_G) (tA mA mA_degrees rA dA cA eA jA tA_images tA_kept tA_heats tA_salts tA_crumbsOf mA_brown : Nat) (t_tests : Nat) (t_traced : Int64) (t_dryWeight : Int32) (m_down : Int32) (m_core : Int32) (m_water : Int32) (m_pricked : Int32) (m_thinSpots : Int32) (m_seconds : Int32) (m_gone : Int32) (m_splitAt : Int32) (m_steam : Int32) (m_degrees : Nat → Int32) (a1 : Nat) (h_0 : a1 < 4) : x_MetI l yX4_markDried wX4_markDried rX4_markDried g [.ref tA, .int (nI a1)] [(tA, .inr (4, [.ref rA, .ref dA, .ref cA, .ref eA, .ref mA, .ref jA, .ref tA_images, .ref tA_kept, .ref tA_heats, .ref tA_salts, .ref tA_crumbsOf, .int (nI t_tests), .long t_traced, .int t_dryWeight])), (mA, .inr (1, [.int m_down, .ref mA_degrees, .ref mA_brown, .int m_core, .int m_water, .int m_pricked, .int m_thinSpots, .int m_seconds, .int m_gone, .int m_splitAt, .int m_steam])), (mA_degrees, .inl (g.2.1 0, 4, .inl m_degrees))] (fun (r : Int32) (u : Int64) => (r, u) = F_X4_markDried t_traced m_degrees m_water a1) (fun u => [(tA, .inr (4, [.ref rA, .ref dA, .ref cA, .ref eA, .ref mA, .ref jA, .ref tA_images, .ref tA_kept, .ref tA_heats, .ref tA_salts, .ref tA_crumbsOf, .int (nI t_tests), .long u, .int t_dryWeight])), (mA, .inr (1, [.int m_down, .ref mA_degrees, .ref mA_brown, .int m_core, .int m_water, .int m_pricked, .int m_thinSpots, .int m_seconds, .int m_gone, .int m_splitAt, .int m_steam])), (mA_degrees, .inl (g.2.1 0, 4, .inl m_degrees))]) := by
  refine x_startI (cc := cX4_markDried) (maxL := 2) (by decide) rfl (Nat.le_of_ble_eq_true rfl) ?_
  intro p e s m args below meth c Q A ls H locs hx hb hml hown hts hK hX hP hD hS hA hl RET
  have hown : s.vm.findClass RX4 = some m.cls := hown
  have hl : lv_has ls 2 [(0, .ref tA), (1, .int (nI a1))] := hl
  obtain ⟨o_0, hO⟩ : ∃ z, z = F_X4_markDried t_traced m_degrees m_water a1 := ⟨_, rfl⟩
  have E := hO
  rw [F_X4_markDried.eq_1] at E
  refine lv_aload_n hx hb dX4_markDried_0 rfl (lv_at hl 0 rfl) ?_
  refine lv_dup hx hb dX4_markDried_1 rfl ?_
  refine va_get (ci := 4) (v := .long t_traced) (C := RX4) (T := TX4) (N := 14) hx hb hts inlX4 hown hK.1 hP 0 rfl rfl 12 (by decide) (hts _ kw_815) (fun _ h9 => h9) rfl dX4_markDried_2 ?_
  refine lv_ldc2 (v := 100000) hx hb hown (hts _ kw_840) dX4_markDried_5 ?_
  refine lv_ladd hx hb dX4_markDried_8 ?_
  refine va_put (ci := 4) (v := .long (t_traced + 100000)) (ty := .long) (C := RX4) (T := TX4) (N := 14) hx hb hts inlX4 tyX4 tyX4_ok nmX4 hown hK.1 hP hD hS 0 rfl rfl 12 (by decide) (hts _ kw_815) (fun _ h9 => h9) rfl (tyX4_ok 12 (by decide)) rfl rfl (Nat.le_of_ble_eq_true rfl) dX4_markDried_9 (fun H locs hP hD hS => ?_)
  have hP : va_P g.1 vwCl [(tA, .inr (4, [.ref rA, .ref dA, .ref cA, .ref eA, .ref mA, .ref jA, .ref tA_images, .ref tA_kept, .ref tA_heats, .ref tA_salts, .ref tA_crumbsOf, .int (nI t_tests), .long (t_traced + 100000), .int t_dryWeight])), (mA, .inr (1, [.int m_down, .ref mA_degrees, .ref mA_brown, .int m_core, .int m_water, .int m_pricked, .int m_thinSpots, .int m_seconds, .int m_gone, .int m_splitAt, .int m_steam])), (mA_degrees, .inl (g.2.1 0, 4, .inl m_degrees))] H := hP
  have hD : va_D A [(tA, .inr (4, [.ref rA, .ref dA, .ref cA, .ref eA, .ref mA, .ref jA, .ref tA_images, .ref tA_kept, .ref tA_heats, .ref tA_salts, .ref tA_crumbsOf, .int (nI t_tests), .long (t_traced + 100000), .int t_dryWeight])), (mA, .inr (1, [.int m_down, .ref mA_degrees, .ref mA_brown, .int m_core, .int m_water, .int m_pricked, .int m_thinSpots, .int m_seconds, .int m_gone, .int m_splitAt, .int m_steam])), (mA_degrees, .inl (g.2.1 0, 4, .inl m_degrees))] := hD
  refine lv_aload_n hx hb dX4_markDried_12 rfl (lv_at hl 0 rfl) ?_
  refine lv_iload_n hx hb dX4_markDried_13 rfl (lv_at hl 1 rfl) ?_
  refine x_callVi (w2 := fun u => [(tA, .inr (4, [.ref rA, .ref dA, .ref cA, .ref eA, .ref mA, .ref jA, .ref tA_images, .ref tA_kept, .ref tA_heats, .ref tA_salts, .ref tA_crumbsOf, .int (nI t_tests), .long u, .int t_dryWeight])), (mA, .inr (1, [.int m_down, .ref mA_degrees, .ref mA_brown, .int m_core, .int m_water, .int m_pricked, .int m_thinSpots, .int m_seconds, .int m_gone, .int m_splitAt, .int m_steam])), (mA_degrees, .inl (g.2.1 0, 4, .inl m_degrees))]) (wr := []) [0, 1, 2] [] [0, 1, 2] 0 4 ⟨hx, hb, hml, hown, hts⟩ hK hX hP hD hS hA (m_X4_markEnd l g tA mA mA_degrees rA dA cA eA jA tA_images tA_kept tA_heats tA_salts tA_crumbsOf mA_brown t_tests (t_traced + 100000) t_dryWeight m_down m_core m_water m_pricked m_thinSpots m_seconds m_gone m_splitAt m_steam m_degrees a1 (by first | assumption | omega | exact x_e8 (by assumption) (by assumption))) (cwV 1 hts (x_gV kw_811 kw_812 kw_813 kw_2 kw_814) rfl rfl rfl vX4_markEnd ⟨Nat.le_of_ble_eq_true rfl, Nat.le_of_ble_eq_true rfl⟩) rfl rfl rfl rfl rfl rfl rfl (by decide) (fun _ => rfl) rfl rfl hl.1 rfl (Nat.le_of_ble_eq_true rfl) dX4_markDried_14 ⟨Nat.zero_le _, Nat.zero_le _⟩ (fun z_2 t_traced_1 H locs hw_3 hP hD hS => ?_)
  have hP : va_P g.1 vwCl [(tA, .inr (4, [.ref rA, .ref dA, .ref cA, .ref eA, .ref mA, .ref jA, .ref tA_images, .ref tA_kept, .ref tA_heats, .ref tA_salts, .ref tA_crumbsOf, .int (nI t_tests), .long t_traced_1, .int t_dryWeight])), (mA, .inr (1, [.int m_down, .ref mA_degrees, .ref mA_brown, .int m_core, .int m_water, .int m_pricked, .int m_thinSpots, .int m_seconds, .int m_gone, .int m_splitAt, .int m_steam])), (mA_degrees, .inl (g.2.1 0, 4, .inl m_degrees))] H := hP
  have hD : va_D A [(tA, .inr (4, [.ref rA, .ref dA, .ref cA, .ref eA, .ref mA, .ref jA, .ref tA_images, .ref tA_kept, .ref tA_heats, .ref tA_salts, .ref tA_crumbsOf, .int (nI t_tests), .long t_traced_1, .int t_dryWeight])), (mA, .inr (1, [.int m_down, .ref mA_degrees, .ref mA_brown, .int m_core, .int m_water, .int m_pricked, .int m_thinSpots, .int m_seconds, .int m_gone, .int m_splitAt, .int m_steam])), (mA_degrees, .inl (g.2.1 0, 4, .inl m_degrees))] := hD
  have E := x_nm_eq E hw_3
  refine lv_aload_n hx hb dX4_markDried_17 rfl (lv_at hl 0 rfl) ?_
  refine va_get (ci := 4) (v := .ref mA) (C := RX4) (T := TX4) (N := 14) hx hb hts inlX4 hown hK.1 hP 0 rfl rfl 4 (by decide) (hts _ kw_26) (fun _ h9 => h9) rfl dX4_markDried_18 ?_
  refine va_get (ci := 1) (v := .int m_water) (C := RX1) (T := TX1) (N := 11) hx hb hts inlX1 hown hK.1 hP 1 rfl rfl 4 (by decide) (hts _ kw_534) (fun _ h9 => h9) rfl dX4_markDried_21 ?_
  refine lv_iadd hx hb dX4_markDried_24 ?_
  exact RET (z_2 + m_water) t_traced_1 H locs _ _ (E.symm.trans hO) rfl hP hD hS dX4_markDried_25
abbrev rX4_mark : Room := { frames := 4, cells := 0, slots := 0, locals := 85 }
theorem vX4_mark : yX4_mark.cls = RX4 ∧ yX4_mark.cls ≠ "java/lang/invoke/MethodHandle" ∧ yX4_mark.cls ≠ "java/lang/invoke/VarHandle" ∧ (parseMethodDescriptor yX4_mark.desc).map (fun d => d.parameters.length) = some 2 := by decide +kernel
abbrev wX4_mark : List Cond := Cond.code yX4_mark cX4_mark 3 (some .int) :: wsL_law
def F_X4_mark (t_traced : Int64) (r_filling : Int32) (m_degrees : Nat → Int32) (m_brown : Nat → Int32) (m_core : Int32) (m_water : Int32) (m_pricked : Int32) (m_gone : Int32) (m_steam : Int32) (a1 : Int32) (a2 : Int32) : Int32 × Int64 :=
  x_nm (F_X4_outside a2 0 3) fun z_1 => if z_1 = 0 then x_nm (a2.toNatClampNeg) fun j_7 => if a1 = 0 then x_nm (F_X4_markEnd t_traced m_degrees j_7) fun u_12 => (u_12.1, u_12.2) else if a1 = 1 then x_nm (F_X4_markWhole t_traced m_degrees m_brown j_7) fun u_17 => (u_17.1, u_17.2) else if a1 = 2 then x_nm (F_X4_markSplit t_traced r_filling m_degrees m_core m_pricked m_gone m_steam j_7) fun u_22 => (u_22.1, u_22.2) else if a1 = 3 then x_nm (F_X4_markCurled t_traced r_filling m_degrees m_core m_pricked m_gone m_steam j_7) fun u_27 => (u_27.1, u_27.2) else if a1 = 4 then x_nm (F_X4_markPale t_traced m_degrees m_brown m_core j_7) fun u_32 => (u_32.1, u_32.2) else if a1 = 5 then x_nm (F_X4_markDried t_traced m_degrees m_water j_7) fun u_37 => (u_37.1, u_37.2) else ((-1000000), t_traced) else ((-1000000), t_traced)
set_option maxHeartbeats 4000000 in
set_option maxRecDepth 100000 in
theorem m_X4_mark (l : Launch) (g : x_G) (tA rA mA mA_degrees mA_brown dA cA eA jA tA_images tA_kept tA_heats tA_salts tA_crumbsOf rA_kinds rA_firsts rA_seconds : Nat) (t_tests : Nat) (t_traced : Int64) (t_dryWeight : Int32) (r_radius : Int32) (r_skin : Int32) (r_filling : Int32) (r_water : Int32) (r_ends : Int32) (r_thin : Int32) (r_chance : Int32) (r_bentFace : Int32) (r_bentBy : Int32) (r_doings : Nat) (m_down : Int32) (m_core : Int32) (m_water : Int32) (m_pricked : Int32) (m_thinSpots : Int32) (m_seconds : Int32) (m_gone : Int32) (m_splitAt : Int32) (m_steam : Int32) (m_degrees : Nat → Int32) (m_brown : Nat → Int32) (a1 : Int32) (a2 : Int32) : x_MetI l yX4_mark wX4_mark rX4_mark g [.ref tA, .int a1, .int a2] [(tA, .inr (4, [.ref rA, .ref dA, .ref cA, .ref eA, .ref mA, .ref jA, .ref tA_images, .ref tA_kept, .ref tA_heats, .ref tA_salts, .ref tA_crumbsOf, .int (nI t_tests), .long t_traced, .int t_dryWeight])), (rA, .inr (3, [.int r_radius, .int r_skin, .int r_filling, .int r_water, .int r_ends, .int r_thin, .int r_chance, .int r_bentFace, .int r_bentBy, .int (nI r_doings), .ref rA_kinds, .ref rA_firsts, .ref rA_seconds])), (mA, .inr (1, [.int m_down, .ref mA_degrees, .ref mA_brown, .int m_core, .int m_water, .int m_pricked, .int m_thinSpots, .int m_seconds, .int m_gone, .int m_splitAt, .int m_steam])), (mA_degrees, .inl (g.2.1 0, 4, .inl m_degrees)), (mA_brown, .inl (g.2.1 0, 4, .inl m_brown))] (fun (r : Int32) (u : Int64) => (r, u) = F_X4_mark t_traced r_filling m_degrees m_brown m_core m_water m_pricked m_gone m_steam a1 a2) (fun u => [(tA, .inr (4, [.ref rA, .ref dA, .ref cA, .ref eA, .ref mA, .ref jA, .ref tA_images, .ref tA_kept, .ref tA_heats, .ref tA_salts, .ref tA_crumbsOf, .int (nI t_tests), .long u, .int t_dryWeight])), (rA, .inr (3, [.int r_radius, .int r_skin, .int r_filling, .int r_water, .int r_ends, .int r_thin, .int r_chance, .int r_bentFace, .int r_bentBy, .int (nI r_doings), .ref rA_kinds, .ref rA_firsts, .ref rA_seconds])), (mA, .inr (1, [.int m_down, .ref mA_degrees, .ref mA_brown, .int m_core, .int m_water, .int m_pricked, .int m_thinSpots, .int m_seconds, .int m_gone, .int m_splitAt, .int m_steam])), (mA_degrees, .inl (g.2.1 0, 4, .inl m_degrees)), (mA_brown, .inl (g.2.1 0, 4, .inl m_brown))]) := by
  refine x_startI (cc := cX4_mark) (maxL := 3) (by decide) rfl (Nat.le_of_ble_eq_true rfl) ?_
  intro p e s m args below meth c Q A ls H locs hx hb hml hown hts hK hX hP hD hS hA hl RET
  have hown : s.vm.findClass RX4 = some m.cls := hown
  have hl : lv_has ls 3 [(0, .ref tA), (1, .int a1), (2, .int a2)] := hl
  obtain ⟨o_0, hO⟩ : ∃ z, z = F_X4_mark t_traced r_filling m_degrees m_brown m_core m_water m_pricked m_gone m_steam a1 a2 := ⟨_, rfl⟩
  have E := hO
  rw [F_X4_mark.eq_1] at E
  refine lv_iload_n hx hb dX4_mark_0 rfl (lv_at hl 2 rfl) ?_
  refine lv_iconst (v := 0) hx hb dX4_mark_1 (by decide) ?_
  refine lv_iconst (v := 3) hx hb dX4_mark_2 (by decide) ?_
  refine x_callS0 ⟨hx, hb, hml, hown, hts⟩ hK hX hP hD hS hA (m_X4_outside l g a2 0 3) (va_cwS 3 hts (x_gS kw_115 kw_116 kw_2 kw_117) rfl rfl rfl vX4_outsideS ⟨Nat.le_of_ble_eq_true rfl, Nat.le_of_ble_eq_true rfl⟩) rfl hl.1 rfl (Nat.le_of_ble_eq_true rfl) dX4_mark_3 ⟨Nat.zero_le _, Nat.zero_le _⟩ (fun z_1 _ H locs hw_2 hP hD hS => ?_)
  obtain ⟨hw_2, b_3⟩ := hw_2
  have E := x_nm_eq E hw_2
  refine lv_if_eq (tgt := 13) hx hb dX4_mark_6 (by decide) (fun c_5 => ?_) (fun c_5 => ?_)
  · have E := x_pos E c_5
    obtain ⟨j_7, hj⟩ : ∃ z, z = (a2).toNatClampNeg := ⟨_, rfl⟩
    have r_6_0 := (x_outs (lo := 0) (hi := 3) (by omega) (by omega) (hw_2.symm.trans c_5))
    rw [← hj] at r_6_0
    obtain ⟨r_6_0_a, r_6_0_b, e_6_0⟩ := r_6_0
    have E := x_nm_eq E hj
    have hl : lv_has ls 3 [(0, .ref tA), (1, .int a1), (2, .int (nI j_7))] := by rw [e_6_0] at hl; exact hl
    refine lv_iload_n hx hb dX4_mark_13 rfl (lv_at hl 1 rfl) ?_
    by_cases c_8 : a1 = 0
    · have E := x_pos E c_8
      refine lv_tableIn (off := 38) (tgt := 52) hx hb dX4_mark_14 (by rw [c_8]; decide) (by rw [c_8]; decide) (by rw [c_8]; decide) (by decide) ?_
      refine lv_aload_n hx hb dX4_mark_52 rfl (lv_at hl 0 rfl) ?_
      refine lv_iload_n hx hb dX4_mark_53 rfl (lv_at hl 2 rfl) ?_
      refine x_callVi (w2 := fun u => [(tA, .inr (4, [.ref rA, .ref dA, .ref cA, .ref eA, .ref mA, .ref jA, .ref tA_images, .ref tA_kept, .ref tA_heats, .ref tA_salts, .ref tA_crumbsOf, .int (nI t_tests), .long u, .int t_dryWeight])), (rA, .inr (3, [.int r_radius, .int r_skin, .int r_filling, .int r_water, .int r_ends, .int r_thin, .int r_chance, .int r_bentFace, .int r_bentBy, .int (nI r_doings), .ref rA_kinds, .ref rA_firsts, .ref rA_seconds])), (mA, .inr (1, [.int m_down, .ref mA_degrees, .ref mA_brown, .int m_core, .int m_water, .int m_pricked, .int m_thinSpots, .int m_seconds, .int m_gone, .int m_splitAt, .int m_steam])), (mA_degrees, .inl (g.2.1 0, 4, .inl m_degrees)), (mA_brown, .inl (g.2.1 0, 4, .inl m_brown))]) (wr := [(rA, .inr (3, [.int r_radius, .int r_skin, .int r_filling, .int r_water, .int r_ends, .int r_thin, .int r_chance, .int r_bentFace, .int r_bentBy, .int (nI r_doings), .ref rA_kinds, .ref rA_firsts, .ref rA_seconds])), (mA_brown, .inl (g.2.1 0, 4, .inl m_brown))]) [0, 2, 3] [1, 4] [2, 0, 3, 4, 1] 0 4 ⟨hx, hb, hml, hown, hts⟩ hK hX hP hD hS hA (m_X4_markEnd l g tA mA mA_degrees rA dA cA eA jA tA_images tA_kept tA_heats tA_salts tA_crumbsOf mA_brown t_tests t_traced t_dryWeight m_down m_core m_water m_pricked m_thinSpots m_seconds m_gone m_splitAt m_steam m_degrees j_7 (by first | assumption | omega | exact x_e8 (by assumption) (by assumption))) (cwV 1 hts (x_gV kw_811 kw_812 kw_813 kw_2 kw_814) rfl rfl rfl vX4_markEnd ⟨Nat.le_of_ble_eq_true rfl, Nat.le_of_ble_eq_true rfl⟩) rfl rfl rfl rfl rfl rfl rfl (by decide) (fun _ => rfl) rfl rfl hl.1 rfl (Nat.le_of_ble_eq_true rfl) dX4_mark_54 ⟨Nat.zero_le _, Nat.zero_le _⟩ (fun z_10 t_traced_9 H locs hw_11 hP hD hS => ?_)
      have hP : va_P g.1 vwCl [(tA, .inr (4, [.ref rA, .ref dA, .ref cA, .ref eA, .ref mA, .ref jA, .ref tA_images, .ref tA_kept, .ref tA_heats, .ref tA_salts, .ref tA_crumbsOf, .int (nI t_tests), .long t_traced_9, .int t_dryWeight])), (rA, .inr (3, [.int r_radius, .int r_skin, .int r_filling, .int r_water, .int r_ends, .int r_thin, .int r_chance, .int r_bentFace, .int r_bentBy, .int (nI r_doings), .ref rA_kinds, .ref rA_firsts, .ref rA_seconds])), (mA, .inr (1, [.int m_down, .ref mA_degrees, .ref mA_brown, .int m_core, .int m_water, .int m_pricked, .int m_thinSpots, .int m_seconds, .int m_gone, .int m_splitAt, .int m_steam])), (mA_degrees, .inl (g.2.1 0, 4, .inl m_degrees)), (mA_brown, .inl (g.2.1 0, 4, .inl m_brown))] H := hP
      have hD : va_D A [(tA, .inr (4, [.ref rA, .ref dA, .ref cA, .ref eA, .ref mA, .ref jA, .ref tA_images, .ref tA_kept, .ref tA_heats, .ref tA_salts, .ref tA_crumbsOf, .int (nI t_tests), .long t_traced_9, .int t_dryWeight])), (rA, .inr (3, [.int r_radius, .int r_skin, .int r_filling, .int r_water, .int r_ends, .int r_thin, .int r_chance, .int r_bentFace, .int r_bentBy, .int (nI r_doings), .ref rA_kinds, .ref rA_firsts, .ref rA_seconds])), (mA, .inr (1, [.int m_down, .ref mA_degrees, .ref mA_brown, .int m_core, .int m_water, .int m_pricked, .int m_thinSpots, .int m_seconds, .int m_gone, .int m_splitAt, .int m_steam])), (mA_degrees, .inl (g.2.1 0, 4, .inl m_degrees)), (mA_brown, .inl (g.2.1 0, 4, .inl m_brown))] := hD
      have E := x_nm_eq E hw_11
      exact RET z_10 t_traced_9 H locs _ _ (E.symm.trans hO) rfl hP hD hS dX4_mark_57
    have E := x_neg E c_8
    by_cases c_13 : a1 = 1
    · have E := x_pos E c_13
      refine lv_tableIn (off := 44) (tgt := 58) hx hb dX4_mark_14 (by rw [c_13]; decide) (by rw [c_13]; decide) (by rw [c_13]; decide) (by decide) ?_
      refine lv_aload_n hx hb dX4_mark_58 rfl (lv_at hl 0 rfl) ?_
      refine lv_iload_n hx hb dX4_mark_59 rfl (lv_at hl 2 rfl) ?_
      refine x_callVi (w2 := fun u => [(tA, .inr (4, [.ref rA, .ref dA, .ref cA, .ref eA, .ref mA, .ref jA, .ref tA_images, .ref tA_kept, .ref tA_heats, .ref tA_salts, .ref tA_crumbsOf, .int (nI t_tests), .long u, .int t_dryWeight])), (rA, .inr (3, [.int r_radius, .int r_skin, .int r_filling, .int r_water, .int r_ends, .int r_thin, .int r_chance, .int r_bentFace, .int r_bentBy, .int (nI r_doings), .ref rA_kinds, .ref rA_firsts, .ref rA_seconds])), (mA, .inr (1, [.int m_down, .ref mA_degrees, .ref mA_brown, .int m_core, .int m_water, .int m_pricked, .int m_thinSpots, .int m_seconds, .int m_gone, .int m_splitAt, .int m_steam])), (mA_degrees, .inl (g.2.1 0, 4, .inl m_degrees)), (mA_brown, .inl (g.2.1 0, 4, .inl m_brown))]) (wr := [(rA, .inr (3, [.int r_radius, .int r_skin, .int r_filling, .int r_water, .int r_ends, .int r_thin, .int r_chance, .int r_bentFace, .int r_bentBy, .int (nI r_doings), .ref rA_kinds, .ref rA_firsts, .ref rA_seconds]))]) [0, 2, 3, 4] [1] [1, 0, 2, 3, 4] 0 4 ⟨hx, hb, hml, hown, hts⟩ hK hX hP hD hS hA (m_X4_markWhole l g tA mA mA_degrees mA_brown rA dA cA eA jA tA_images tA_kept tA_heats tA_salts tA_crumbsOf t_tests t_traced t_dryWeight m_down m_core m_water m_pricked m_thinSpots m_seconds m_gone m_splitAt m_steam m_degrees m_brown j_7 (by first | assumption | omega | exact x_e8 (by assumption) (by assumption))) (cwV 1 hts (x_gV kw_816 kw_817 kw_818 kw_2 kw_819) rfl rfl rfl vX4_markWhole ⟨Nat.le_of_ble_eq_true rfl, Nat.le_of_ble_eq_true rfl⟩) rfl rfl rfl rfl rfl rfl rfl (by decide) (fun _ => rfl) rfl rfl hl.1 rfl (Nat.le_of_ble_eq_true rfl) dX4_mark_60 ⟨Nat.zero_le _, Nat.zero_le _⟩ (fun z_15 t_traced_14 H locs hw_16 hP hD hS => ?_)
      have hP : va_P g.1 vwCl [(tA, .inr (4, [.ref rA, .ref dA, .ref cA, .ref eA, .ref mA, .ref jA, .ref tA_images, .ref tA_kept, .ref tA_heats, .ref tA_salts, .ref tA_crumbsOf, .int (nI t_tests), .long t_traced_14, .int t_dryWeight])), (rA, .inr (3, [.int r_radius, .int r_skin, .int r_filling, .int r_water, .int r_ends, .int r_thin, .int r_chance, .int r_bentFace, .int r_bentBy, .int (nI r_doings), .ref rA_kinds, .ref rA_firsts, .ref rA_seconds])), (mA, .inr (1, [.int m_down, .ref mA_degrees, .ref mA_brown, .int m_core, .int m_water, .int m_pricked, .int m_thinSpots, .int m_seconds, .int m_gone, .int m_splitAt, .int m_steam])), (mA_degrees, .inl (g.2.1 0, 4, .inl m_degrees)), (mA_brown, .inl (g.2.1 0, 4, .inl m_brown))] H := hP
      have hD : va_D A [(tA, .inr (4, [.ref rA, .ref dA, .ref cA, .ref eA, .ref mA, .ref jA, .ref tA_images, .ref tA_kept, .ref tA_heats, .ref tA_salts, .ref tA_crumbsOf, .int (nI t_tests), .long t_traced_14, .int t_dryWeight])), (rA, .inr (3, [.int r_radius, .int r_skin, .int r_filling, .int r_water, .int r_ends, .int r_thin, .int r_chance, .int r_bentFace, .int r_bentBy, .int (nI r_doings), .ref rA_kinds, .ref rA_firsts, .ref rA_seconds])), (mA, .inr (1, [.int m_down, .ref mA_degrees, .ref mA_brown, .int m_core, .int m_water, .int m_pricked, .int m_thinSpots, .int m_seconds, .int m_gone, .int m_splitAt, .int m_steam])), (mA_degrees, .inl (g.2.1 0, 4, .inl m_degrees)), (mA_brown, .inl (g.2.1 0, 4, .inl m_brown))] := hD
      have E := x_nm_eq E hw_16
      exact RET z_15 t_traced_14 H locs _ _ (E.symm.trans hO) rfl hP hD hS dX4_mark_63
    have E := x_neg E c_13
    by_cases c_18 : a1 = 2
    · have E := x_pos E c_18
      refine lv_tableIn (off := 50) (tgt := 64) hx hb dX4_mark_14 (by rw [c_18]; decide) (by rw [c_18]; decide) (by rw [c_18]; decide) (by decide) ?_
      refine lv_aload_n hx hb dX4_mark_64 rfl (lv_at hl 0 rfl) ?_
      refine lv_iload_n hx hb dX4_mark_65 rfl (lv_at hl 2 rfl) ?_
      refine x_callVi (w2 := fun u => [(tA, .inr (4, [.ref rA, .ref dA, .ref cA, .ref eA, .ref mA, .ref jA, .ref tA_images, .ref tA_kept, .ref tA_heats, .ref tA_salts, .ref tA_crumbsOf, .int (nI t_tests), .long u, .int t_dryWeight])), (rA, .inr (3, [.int r_radius, .int r_skin, .int r_filling, .int r_water, .int r_ends, .int r_thin, .int r_chance, .int r_bentFace, .int r_bentBy, .int (nI r_doings), .ref rA_kinds, .ref rA_firsts, .ref rA_seconds])), (mA, .inr (1, [.int m_down, .ref mA_degrees, .ref mA_brown, .int m_core, .int m_water, .int m_pricked, .int m_thinSpots, .int m_seconds, .int m_gone, .int m_splitAt, .int m_steam])), (mA_degrees, .inl (g.2.1 0, 4, .inl m_degrees)), (mA_brown, .inl (g.2.1 0, 4, .inl m_brown))]) (wr := [(mA_brown, .inl (g.2.1 0, 4, .inl m_brown))]) [0, 1, 2, 3] [4] [1, 2, 3, 4, 0] 0 4 ⟨hx, hb, hml, hown, hts⟩ hK hX hP hD hS hA (m_X4_markSplit l g tA rA mA mA_degrees dA cA eA jA tA_images tA_kept tA_heats tA_salts tA_crumbsOf rA_kinds rA_firsts rA_seconds mA_brown t_tests t_traced t_dryWeight r_radius r_skin r_filling r_water r_ends r_thin r_chance r_bentFace r_bentBy r_doings m_down m_core m_water m_pricked m_thinSpots m_seconds m_gone m_splitAt m_steam m_degrees j_7 (by first | assumption | omega | exact x_e8 (by assumption) (by assumption))) (cwV 1 hts (x_gV kw_821 kw_822 kw_823 kw_2 kw_824) rfl rfl rfl vX4_markSplit ⟨Nat.le_of_ble_eq_true rfl, Nat.le_of_ble_eq_true rfl⟩) rfl rfl rfl rfl rfl rfl rfl (by decide) (fun _ => rfl) rfl rfl hl.1 rfl (Nat.le_of_ble_eq_true rfl) dX4_mark_66 ⟨Nat.zero_le _, Nat.zero_le _⟩ (fun z_20 t_traced_19 H locs hw_21 hP hD hS => ?_)
      have hP : va_P g.1 vwCl [(tA, .inr (4, [.ref rA, .ref dA, .ref cA, .ref eA, .ref mA, .ref jA, .ref tA_images, .ref tA_kept, .ref tA_heats, .ref tA_salts, .ref tA_crumbsOf, .int (nI t_tests), .long t_traced_19, .int t_dryWeight])), (rA, .inr (3, [.int r_radius, .int r_skin, .int r_filling, .int r_water, .int r_ends, .int r_thin, .int r_chance, .int r_bentFace, .int r_bentBy, .int (nI r_doings), .ref rA_kinds, .ref rA_firsts, .ref rA_seconds])), (mA, .inr (1, [.int m_down, .ref mA_degrees, .ref mA_brown, .int m_core, .int m_water, .int m_pricked, .int m_thinSpots, .int m_seconds, .int m_gone, .int m_splitAt, .int m_steam])), (mA_degrees, .inl (g.2.1 0, 4, .inl m_degrees)), (mA_brown, .inl (g.2.1 0, 4, .inl m_brown))] H := hP
      have hD : va_D A [(tA, .inr (4, [.ref rA, .ref dA, .ref cA, .ref eA, .ref mA, .ref jA, .ref tA_images, .ref tA_kept, .ref tA_heats, .ref tA_salts, .ref tA_crumbsOf, .int (nI t_tests), .long t_traced_19, .int t_dryWeight])), (rA, .inr (3, [.int r_radius, .int r_skin, .int r_filling, .int r_water, .int r_ends, .int r_thin, .int r_chance, .int r_bentFace, .int r_bentBy, .int (nI r_doings), .ref rA_kinds, .ref rA_firsts, .ref rA_seconds])), (mA, .inr (1, [.int m_down, .ref mA_degrees, .ref mA_brown, .int m_core, .int m_water, .int m_pricked, .int m_thinSpots, .int m_seconds, .int m_gone, .int m_splitAt, .int m_steam])), (mA_degrees, .inl (g.2.1 0, 4, .inl m_degrees)), (mA_brown, .inl (g.2.1 0, 4, .inl m_brown))] := hD
      have E := x_nm_eq E hw_21
      exact RET z_20 t_traced_19 H locs _ _ (E.symm.trans hO) rfl hP hD hS dX4_mark_69
    have E := x_neg E c_18
    by_cases c_23 : a1 = 3
    · have E := x_pos E c_23
      refine lv_tableIn (off := 56) (tgt := 70) hx hb dX4_mark_14 (by rw [c_23]; decide) (by rw [c_23]; decide) (by rw [c_23]; decide) (by decide) ?_
      refine lv_aload_n hx hb dX4_mark_70 rfl (lv_at hl 0 rfl) ?_
      refine lv_iload_n hx hb dX4_mark_71 rfl (lv_at hl 2 rfl) ?_
      refine x_callVi (w2 := fun u => [(tA, .inr (4, [.ref rA, .ref dA, .ref cA, .ref eA, .ref mA, .ref jA, .ref tA_images, .ref tA_kept, .ref tA_heats, .ref tA_salts, .ref tA_crumbsOf, .int (nI t_tests), .long u, .int t_dryWeight])), (rA, .inr (3, [.int r_radius, .int r_skin, .int r_filling, .int r_water, .int r_ends, .int r_thin, .int r_chance, .int r_bentFace, .int r_bentBy, .int (nI r_doings), .ref rA_kinds, .ref rA_firsts, .ref rA_seconds])), (mA, .inr (1, [.int m_down, .ref mA_degrees, .ref mA_brown, .int m_core, .int m_water, .int m_pricked, .int m_thinSpots, .int m_seconds, .int m_gone, .int m_splitAt, .int m_steam])), (mA_degrees, .inl (g.2.1 0, 4, .inl m_degrees)), (mA_brown, .inl (g.2.1 0, 4, .inl m_brown))]) (wr := [(mA_brown, .inl (g.2.1 0, 4, .inl m_brown))]) [0, 1, 2, 3] [4] [1, 2, 3, 4, 0] 0 4 ⟨hx, hb, hml, hown, hts⟩ hK hX hP hD hS hA (m_X4_markCurled l g tA rA mA mA_degrees dA cA eA jA tA_images tA_kept tA_heats tA_salts tA_crumbsOf rA_kinds rA_firsts rA_seconds mA_brown t_tests t_traced t_dryWeight r_radius r_skin r_filling r_water r_ends r_thin r_chance r_bentFace r_bentBy r_doings m_down m_core m_water m_pricked m_thinSpots m_seconds m_gone m_splitAt m_steam m_degrees j_7 (by first | assumption | omega | exact x_e8 (by assumption) (by assumption))) (cwV 1 hts (x_gV kw_826 kw_827 kw_828 kw_2 kw_829) rfl rfl rfl vX4_markCurled ⟨Nat.le_of_ble_eq_true rfl, Nat.le_of_ble_eq_true rfl⟩) rfl rfl rfl rfl rfl rfl rfl (by decide) (fun _ => rfl) rfl rfl hl.1 rfl (Nat.le_of_ble_eq_true rfl) dX4_mark_72 ⟨Nat.zero_le _, Nat.zero_le _⟩ (fun z_25 t_traced_24 H locs hw_26 hP hD hS => ?_)
      have hP : va_P g.1 vwCl [(tA, .inr (4, [.ref rA, .ref dA, .ref cA, .ref eA, .ref mA, .ref jA, .ref tA_images, .ref tA_kept, .ref tA_heats, .ref tA_salts, .ref tA_crumbsOf, .int (nI t_tests), .long t_traced_24, .int t_dryWeight])), (rA, .inr (3, [.int r_radius, .int r_skin, .int r_filling, .int r_water, .int r_ends, .int r_thin, .int r_chance, .int r_bentFace, .int r_bentBy, .int (nI r_doings), .ref rA_kinds, .ref rA_firsts, .ref rA_seconds])), (mA, .inr (1, [.int m_down, .ref mA_degrees, .ref mA_brown, .int m_core, .int m_water, .int m_pricked, .int m_thinSpots, .int m_seconds, .int m_gone, .int m_splitAt, .int m_steam])), (mA_degrees, .inl (g.2.1 0, 4, .inl m_degrees)), (mA_brown, .inl (g.2.1 0, 4, .inl m_brown))] H := hP
      have hD : va_D A [(tA, .inr (4, [.ref rA, .ref dA, .ref cA, .ref eA, .ref mA, .ref jA, .ref tA_images, .ref tA_kept, .ref tA_heats, .ref tA_salts, .ref tA_crumbsOf, .int (nI t_tests), .long t_traced_24, .int t_dryWeight])), (rA, .inr (3, [.int r_radius, .int r_skin, .int r_filling, .int r_water, .int r_ends, .int r_thin, .int r_chance, .int r_bentFace, .int r_bentBy, .int (nI r_doings), .ref rA_kinds, .ref rA_firsts, .ref rA_seconds])), (mA, .inr (1, [.int m_down, .ref mA_degrees, .ref mA_brown, .int m_core, .int m_water, .int m_pricked, .int m_thinSpots, .int m_seconds, .int m_gone, .int m_splitAt, .int m_steam])), (mA_degrees, .inl (g.2.1 0, 4, .inl m_degrees)), (mA_brown, .inl (g.2.1 0, 4, .inl m_brown))] := hD
      have E := x_nm_eq E hw_26
      exact RET z_25 t_traced_24 H locs _ _ (E.symm.trans hO) rfl hP hD hS dX4_mark_75
    have E := x_neg E c_23
    by_cases c_28 : a1 = 4
    · have E := x_pos E c_28
      refine lv_tableIn (off := 62) (tgt := 76) hx hb dX4_mark_14 (by rw [c_28]; decide) (by rw [c_28]; decide) (by rw [c_28]; decide) (by decide) ?_
      refine lv_aload_n hx hb dX4_mark_76 rfl (lv_at hl 0 rfl) ?_
      refine lv_iload_n hx hb dX4_mark_77 rfl (lv_at hl 2 rfl) ?_
      refine x_callVi (w2 := fun u => [(tA, .inr (4, [.ref rA, .ref dA, .ref cA, .ref eA, .ref mA, .ref jA, .ref tA_images, .ref tA_kept, .ref tA_heats, .ref tA_salts, .ref tA_crumbsOf, .int (nI t_tests), .long u, .int t_dryWeight])), (rA, .inr (3, [.int r_radius, .int r_skin, .int r_filling, .int r_water, .int r_ends, .int r_thin, .int r_chance, .int r_bentFace, .int r_bentBy, .int (nI r_doings), .ref rA_kinds, .ref rA_firsts, .ref rA_seconds])), (mA, .inr (1, [.int m_down, .ref mA_degrees, .ref mA_brown, .int m_core, .int m_water, .int m_pricked, .int m_thinSpots, .int m_seconds, .int m_gone, .int m_splitAt, .int m_steam])), (mA_degrees, .inl (g.2.1 0, 4, .inl m_degrees)), (mA_brown, .inl (g.2.1 0, 4, .inl m_brown))]) (wr := [(rA, .inr (3, [.int r_radius, .int r_skin, .int r_filling, .int r_water, .int r_ends, .int r_thin, .int r_chance, .int r_bentFace, .int r_bentBy, .int (nI r_doings), .ref rA_kinds, .ref rA_firsts, .ref rA_seconds]))]) [0, 2, 3, 4] [1] [1, 0, 2, 3, 4] 0 4 ⟨hx, hb, hml, hown, hts⟩ hK hX hP hD hS hA (m_X4_markPale l g tA mA mA_degrees mA_brown rA dA cA eA jA tA_images tA_kept tA_heats tA_salts tA_crumbsOf t_tests t_traced t_dryWeight m_down m_core m_water m_pricked m_thinSpots m_seconds m_gone m_splitAt m_steam m_degrees m_brown j_7 (by first | assumption | omega | exact x_e8 (by assumption) (by assumption))) (cwV 1 hts (x_gV kw_831 kw_832 kw_833 kw_2 kw_834) rfl rfl rfl vX4_markPale ⟨Nat.le_of_ble_eq_true rfl, Nat.le_of_ble_eq_true rfl⟩) rfl rfl rfl rfl rfl rfl rfl (by decide) (fun _ => rfl) rfl rfl hl.1 rfl (Nat.le_of_ble_eq_true rfl) dX4_mark_78 ⟨Nat.zero_le _, Nat.zero_le _⟩ (fun z_30 t_traced_29 H locs hw_31 hP hD hS => ?_)
      have hP : va_P g.1 vwCl [(tA, .inr (4, [.ref rA, .ref dA, .ref cA, .ref eA, .ref mA, .ref jA, .ref tA_images, .ref tA_kept, .ref tA_heats, .ref tA_salts, .ref tA_crumbsOf, .int (nI t_tests), .long t_traced_29, .int t_dryWeight])), (rA, .inr (3, [.int r_radius, .int r_skin, .int r_filling, .int r_water, .int r_ends, .int r_thin, .int r_chance, .int r_bentFace, .int r_bentBy, .int (nI r_doings), .ref rA_kinds, .ref rA_firsts, .ref rA_seconds])), (mA, .inr (1, [.int m_down, .ref mA_degrees, .ref mA_brown, .int m_core, .int m_water, .int m_pricked, .int m_thinSpots, .int m_seconds, .int m_gone, .int m_splitAt, .int m_steam])), (mA_degrees, .inl (g.2.1 0, 4, .inl m_degrees)), (mA_brown, .inl (g.2.1 0, 4, .inl m_brown))] H := hP
      have hD : va_D A [(tA, .inr (4, [.ref rA, .ref dA, .ref cA, .ref eA, .ref mA, .ref jA, .ref tA_images, .ref tA_kept, .ref tA_heats, .ref tA_salts, .ref tA_crumbsOf, .int (nI t_tests), .long t_traced_29, .int t_dryWeight])), (rA, .inr (3, [.int r_radius, .int r_skin, .int r_filling, .int r_water, .int r_ends, .int r_thin, .int r_chance, .int r_bentFace, .int r_bentBy, .int (nI r_doings), .ref rA_kinds, .ref rA_firsts, .ref rA_seconds])), (mA, .inr (1, [.int m_down, .ref mA_degrees, .ref mA_brown, .int m_core, .int m_water, .int m_pricked, .int m_thinSpots, .int m_seconds, .int m_gone, .int m_splitAt, .int m_steam])), (mA_degrees, .inl (g.2.1 0, 4, .inl m_degrees)), (mA_brown, .inl (g.2.1 0, 4, .inl m_brown))] := hD
      have E := x_nm_eq E hw_31
      exact RET z_30 t_traced_29 H locs _ _ (E.symm.trans hO) rfl hP hD hS dX4_mark_81
    have E := x_neg E c_28
    by_cases c_33 : a1 = 5
    · have E := x_pos E c_33
      refine lv_tableIn (off := 68) (tgt := 82) hx hb dX4_mark_14 (by rw [c_33]; decide) (by rw [c_33]; decide) (by rw [c_33]; decide) (by decide) ?_
      refine lv_aload_n hx hb dX4_mark_82 rfl (lv_at hl 0 rfl) ?_
      refine lv_iload_n hx hb dX4_mark_83 rfl (lv_at hl 2 rfl) ?_
      refine x_callVi (w2 := fun u => [(tA, .inr (4, [.ref rA, .ref dA, .ref cA, .ref eA, .ref mA, .ref jA, .ref tA_images, .ref tA_kept, .ref tA_heats, .ref tA_salts, .ref tA_crumbsOf, .int (nI t_tests), .long u, .int t_dryWeight])), (rA, .inr (3, [.int r_radius, .int r_skin, .int r_filling, .int r_water, .int r_ends, .int r_thin, .int r_chance, .int r_bentFace, .int r_bentBy, .int (nI r_doings), .ref rA_kinds, .ref rA_firsts, .ref rA_seconds])), (mA, .inr (1, [.int m_down, .ref mA_degrees, .ref mA_brown, .int m_core, .int m_water, .int m_pricked, .int m_thinSpots, .int m_seconds, .int m_gone, .int m_splitAt, .int m_steam])), (mA_degrees, .inl (g.2.1 0, 4, .inl m_degrees)), (mA_brown, .inl (g.2.1 0, 4, .inl m_brown))]) (wr := [(rA, .inr (3, [.int r_radius, .int r_skin, .int r_filling, .int r_water, .int r_ends, .int r_thin, .int r_chance, .int r_bentFace, .int r_bentBy, .int (nI r_doings), .ref rA_kinds, .ref rA_firsts, .ref rA_seconds])), (mA_brown, .inl (g.2.1 0, 4, .inl m_brown))]) [0, 2, 3] [1, 4] [2, 0, 3, 4, 1] 0 4 ⟨hx, hb, hml, hown, hts⟩ hK hX hP hD hS hA (m_X4_markDried l g tA mA mA_degrees rA dA cA eA jA tA_images tA_kept tA_heats tA_salts tA_crumbsOf mA_brown t_tests t_traced t_dryWeight m_down m_core m_water m_pricked m_thinSpots m_seconds m_gone m_splitAt m_steam m_degrees j_7 (by first | assumption | omega | exact x_e8 (by assumption) (by assumption))) (cwV 1 hts (x_gV kw_836 kw_837 kw_838 kw_2 kw_839) rfl rfl rfl vX4_markDried ⟨Nat.le_of_ble_eq_true rfl, Nat.le_of_ble_eq_true rfl⟩) rfl rfl rfl rfl rfl rfl rfl (by decide) (fun _ => rfl) rfl rfl hl.1 rfl (Nat.le_of_ble_eq_true rfl) dX4_mark_84 ⟨Nat.zero_le _, Nat.zero_le _⟩ (fun z_35 t_traced_34 H locs hw_36 hP hD hS => ?_)
      have hP : va_P g.1 vwCl [(tA, .inr (4, [.ref rA, .ref dA, .ref cA, .ref eA, .ref mA, .ref jA, .ref tA_images, .ref tA_kept, .ref tA_heats, .ref tA_salts, .ref tA_crumbsOf, .int (nI t_tests), .long t_traced_34, .int t_dryWeight])), (rA, .inr (3, [.int r_radius, .int r_skin, .int r_filling, .int r_water, .int r_ends, .int r_thin, .int r_chance, .int r_bentFace, .int r_bentBy, .int (nI r_doings), .ref rA_kinds, .ref rA_firsts, .ref rA_seconds])), (mA, .inr (1, [.int m_down, .ref mA_degrees, .ref mA_brown, .int m_core, .int m_water, .int m_pricked, .int m_thinSpots, .int m_seconds, .int m_gone, .int m_splitAt, .int m_steam])), (mA_degrees, .inl (g.2.1 0, 4, .inl m_degrees)), (mA_brown, .inl (g.2.1 0, 4, .inl m_brown))] H := hP
      have hD : va_D A [(tA, .inr (4, [.ref rA, .ref dA, .ref cA, .ref eA, .ref mA, .ref jA, .ref tA_images, .ref tA_kept, .ref tA_heats, .ref tA_salts, .ref tA_crumbsOf, .int (nI t_tests), .long t_traced_34, .int t_dryWeight])), (rA, .inr (3, [.int r_radius, .int r_skin, .int r_filling, .int r_water, .int r_ends, .int r_thin, .int r_chance, .int r_bentFace, .int r_bentBy, .int (nI r_doings), .ref rA_kinds, .ref rA_firsts, .ref rA_seconds])), (mA, .inr (1, [.int m_down, .ref mA_degrees, .ref mA_brown, .int m_core, .int m_water, .int m_pricked, .int m_thinSpots, .int m_seconds, .int m_gone, .int m_splitAt, .int m_steam])), (mA_degrees, .inl (g.2.1 0, 4, .inl m_degrees)), (mA_brown, .inl (g.2.1 0, 4, .inl m_brown))] := hD
      have E := x_nm_eq E hw_36
      exact RET z_35 t_traced_34 H locs _ _ (E.symm.trans hO) rfl hP hD hS dX4_mark_87
    have E := x_neg E c_33
    refine lv_tableOut (tgt := 88) hx hb dX4_mark_14 (x_out 6 (by decide) (fun k hk => by rcases (show k = 0 ∨ k = 1 ∨ k = 2 ∨ k = 3 ∨ k = 4 ∨ k = 5 by omega) with rfl | rfl | rfl | rfl | rfl | rfl <;> assumption) (by decide)) (by decide) ?_
    refine lv_ldcw (v := (-1000000)) hx hb hown (hts _ kw_810) dX4_mark_88 ?_
    exact RET (-1000000) t_traced H locs _ _ (E.symm.trans hO) rfl hP hD hS dX4_mark_91
  · have E := x_neg E c_5
    refine lv_ldcw (v := (-1000000)) hx hb hown (hts _ kw_810) dX4_mark_9 ?_
    exact RET (-1000000) t_traced H locs _ _ (E.symm.trans hO) rfl hP hD hS dX4_mark_12
abbrev rX4_keep : Room := { frames := 1, cells := 0, slots := 0, locals := 22 }
theorem vX4_keep : yX4_keep.cls = RX4 ∧ yX4_keep.cls ≠ "java/lang/invoke/MethodHandle" ∧ yX4_keep.cls ≠ "java/lang/invoke/VarHandle" ∧ (parseMethodDescriptor yX4_keep.desc).map (fun d => d.parameters.length) = some 1 := by decide +kernel
abbrev wX4_keep : List Cond := Cond.code yX4_keep cX4_keep 2 (some .int) :: wsL_law
def F_X4_keep (t_kept : Nat → Int32) (m_down : Int32) (m_degrees : Nat → Int32) (m_brown : Nat → Int32) (m_core : Int32) (m_water : Int32) (m_pricked : Int32) (m_thinSpots : Int32) (m_seconds : Int32) (m_gone : Int32) (m_splitAt : Int32) (m_steam : Int32) (i0_down : Int32) (i0_degrees : Nat → Int32) (i0_brown : Nat → Int32) (i0_core : Int32) (i0_water : Int32) (i0_pricked : Int32) (i0_thinSpots : Int32) (i0_seconds : Int32) (i0_gone : Int32) (i0_splitAt : Int32) (i0_steam : Int32) (i1_down : Int32) (i1_degrees : Nat → Int32) (i1_brown : Nat → Int32) (i1_core : Int32) (i1_water : Int32) (i1_pricked : Int32) (i1_thinSpots : Int32) (i1_seconds : Int32) (i1_gone : Int32) (i1_splitAt : Int32) (i1_steam : Int32) (a1 : Int32) : Int32 × (Nat → Int32) × Int32 × Int32 × Int32 × Int32 × Int32 × Int32 × Int32 × Int32 × Int32 × (Nat → Int32) × (Nat → Int32) × Int32 × Int32 × Int32 × Int32 × Int32 × Int32 × Int32 × Int32 × Int32 × (Nat → Int32) × (Nat → Int32) :=
  x_nm (F_X4_outside a1 0 1) fun z_1 => if z_1 = 0 then x_nm (a1.toNatClampNeg) fun j_7 => if j_7 = 0 then x_nm (F_X1_take i0_degrees i0_brown m_down m_degrees m_brown m_core m_water m_pricked m_thinSpots m_seconds m_gone m_splitAt m_steam) fun u_21 => x_nm (upd t_kept j_7 1) fun t_kept_22 => (m_seconds, t_kept_22, u_21.1, u_21.2.1, u_21.2.2.1, u_21.2.2.2.1, u_21.2.2.2.2.1, u_21.2.2.2.2.2.1, u_21.2.2.2.2.2.2.1, u_21.2.2.2.2.2.2.2.1, u_21.2.2.2.2.2.2.2.2.1, u_21.2.2.2.2.2.2.2.2.2.1, u_21.2.2.2.2.2.2.2.2.2.2, i1_down, i1_core, i1_water, i1_pricked, i1_thinSpots, i1_seconds, i1_gone, i1_splitAt, i1_steam, i1_degrees, i1_brown) else x_nm (F_X1_take i1_degrees i1_brown m_down m_degrees m_brown m_core m_water m_pricked m_thinSpots m_seconds m_gone m_splitAt m_steam) fun u_35 => x_nm (upd t_kept j_7 1) fun t_kept_36 => (m_seconds, t_kept_36, i0_down, i0_core, i0_water, i0_pricked, i0_thinSpots, i0_seconds, i0_gone, i0_splitAt, i0_steam, i0_degrees, i0_brown, u_35.1, u_35.2.1, u_35.2.2.1, u_35.2.2.2.1, u_35.2.2.2.2.1, u_35.2.2.2.2.2.1, u_35.2.2.2.2.2.2.1, u_35.2.2.2.2.2.2.2.1, u_35.2.2.2.2.2.2.2.2.1, u_35.2.2.2.2.2.2.2.2.2.1, u_35.2.2.2.2.2.2.2.2.2.2) else ((-1), t_kept, i0_down, i0_core, i0_water, i0_pricked, i0_thinSpots, i0_seconds, i0_gone, i0_splitAt, i0_steam, i0_degrees, i0_brown, i1_down, i1_core, i1_water, i1_pricked, i1_thinSpots, i1_seconds, i1_gone, i1_splitAt, i1_steam, i1_degrees, i1_brown)
set_option maxHeartbeats 4000000 in
set_option maxRecDepth 100000 in
theorem m_X4_keep (l : Launch) (g : x_G) (tA mA mA_degrees mA_brown tA_images tA_kept i0A i0A_degrees i0A_brown i1A i1A_degrees i1A_brown rA dA cA eA jA tA_heats tA_salts tA_crumbsOf : Nat) (t_tests : Nat) (t_traced : Int64) (t_dryWeight : Int32) (m_down : Int32) (m_core : Int32) (m_water : Int32) (m_pricked : Int32) (m_thinSpots : Int32) (m_seconds : Int32) (m_gone : Int32) (m_splitAt : Int32) (m_steam : Int32) (m_degrees : Nat → Int32) (m_brown : Nat → Int32) (t_images : Nat → Option Nat) (t_kept : Nat → Int32) (i0_down : Int32) (i0_core : Int32) (i0_water : Int32) (i0_pricked : Int32) (i0_thinSpots : Int32) (i0_seconds : Int32) (i0_gone : Int32) (i0_splitAt : Int32) (i0_steam : Int32) (i0_degrees : Nat → Int32) (i0_brown : Nat → Int32) (i1_down : Int32) (i1_core : Int32) (i1_water : Int32) (i1_pricked : Int32) (i1_thinSpots : Int32) (i1_seconds : Int32) (i1_gone : Int32) (i1_splitAt : Int32) (i1_steam : Int32) (i1_degrees : Nat → Int32) (i1_brown : Nat → Int32) (a1 : Int32) (h_0 : t_images 0 = some i0A) (h_1 : t_images 1 = some i1A) : x_MetI l yX4_keep wX4_keep rX4_keep g [.ref tA, .int a1] [(tA, .inr (4, [.ref rA, .ref dA, .ref cA, .ref eA, .ref mA, .ref jA, .ref tA_images, .ref tA_kept, .ref tA_heats, .ref tA_salts, .ref tA_crumbsOf, .int (nI t_tests), .long t_traced, .int t_dryWeight])), (mA, .inr (1, [.int m_down, .ref mA_degrees, .ref mA_brown, .int m_core, .int m_water, .int m_pricked, .int m_thinSpots, .int m_seconds, .int m_gone, .int m_splitAt, .int m_steam])), (mA_degrees, .inl (g.2.1 0, 4, .inl m_degrees)), (mA_brown, .inl (g.2.1 0, 4, .inl m_brown)), (tA_images, .inl (g.2.1 3, 2, .inr (.inr (.inr (.inr t_images))))), (tA_kept, .inl (g.2.1 1, 2, .inl t_kept)), (i0A, .inr (1, [.int i0_down, .ref i0A_degrees, .ref i0A_brown, .int i0_core, .int i0_water, .int i0_pricked, .int i0_thinSpots, .int i0_seconds, .int i0_gone, .int i0_splitAt, .int i0_steam])), (i0A_degrees, .inl (g.2.1 0, 4, .inl i0_degrees)), (i0A_brown, .inl (g.2.1 0, 4, .inl i0_brown)), (i1A, .inr (1, [.int i1_down, .ref i1A_degrees, .ref i1A_brown, .int i1_core, .int i1_water, .int i1_pricked, .int i1_thinSpots, .int i1_seconds, .int i1_gone, .int i1_splitAt, .int i1_steam])), (i1A_degrees, .inl (g.2.1 0, 4, .inl i1_degrees)), (i1A_brown, .inl (g.2.1 0, 4, .inl i1_brown))] (fun (r : Int32) (u : (Nat → Int32) × Int32 × Int32 × Int32 × Int32 × Int32 × Int32 × Int32 × Int32 × Int32 × (Nat → Int32) × (Nat → Int32) × Int32 × Int32 × Int32 × Int32 × Int32 × Int32 × Int32 × Int32 × Int32 × (Nat → Int32) × (Nat → Int32)) => (r, u) = F_X4_keep t_kept m_down m_degrees m_brown m_core m_water m_pricked m_thinSpots m_seconds m_gone m_splitAt m_steam i0_down i0_degrees i0_brown i0_core i0_water i0_pricked i0_thinSpots i0_seconds i0_gone i0_splitAt i0_steam i1_down i1_degrees i1_brown i1_core i1_water i1_pricked i1_thinSpots i1_seconds i1_gone i1_splitAt i1_steam a1) (fun u => [(tA, .inr (4, [.ref rA, .ref dA, .ref cA, .ref eA, .ref mA, .ref jA, .ref tA_images, .ref tA_kept, .ref tA_heats, .ref tA_salts, .ref tA_crumbsOf, .int (nI t_tests), .long t_traced, .int t_dryWeight])), (mA, .inr (1, [.int m_down, .ref mA_degrees, .ref mA_brown, .int m_core, .int m_water, .int m_pricked, .int m_thinSpots, .int m_seconds, .int m_gone, .int m_splitAt, .int m_steam])), (mA_degrees, .inl (g.2.1 0, 4, .inl m_degrees)), (mA_brown, .inl (g.2.1 0, 4, .inl m_brown)), (tA_images, .inl (g.2.1 3, 2, .inr (.inr (.inr (.inr t_images))))), (tA_kept, .inl (g.2.1 1, 2, .inl u.1)), (i0A, .inr (1, [.int u.2.1, .ref i0A_degrees, .ref i0A_brown, .int u.2.2.1, .int u.2.2.2.1, .int u.2.2.2.2.1, .int u.2.2.2.2.2.1, .int u.2.2.2.2.2.2.1, .int u.2.2.2.2.2.2.2.1, .int u.2.2.2.2.2.2.2.2.1, .int u.2.2.2.2.2.2.2.2.2.1])), (i0A_degrees, .inl (g.2.1 0, 4, .inl u.2.2.2.2.2.2.2.2.2.2.1)), (i0A_brown, .inl (g.2.1 0, 4, .inl u.2.2.2.2.2.2.2.2.2.2.2.1)), (i1A, .inr (1, [.int u.2.2.2.2.2.2.2.2.2.2.2.2.1, .ref i1A_degrees, .ref i1A_brown, .int u.2.2.2.2.2.2.2.2.2.2.2.2.2.1, .int u.2.2.2.2.2.2.2.2.2.2.2.2.2.2.1, .int u.2.2.2.2.2.2.2.2.2.2.2.2.2.2.2.1, .int u.2.2.2.2.2.2.2.2.2.2.2.2.2.2.2.2.1, .int u.2.2.2.2.2.2.2.2.2.2.2.2.2.2.2.2.2.1, .int u.2.2.2.2.2.2.2.2.2.2.2.2.2.2.2.2.2.2.1, .int u.2.2.2.2.2.2.2.2.2.2.2.2.2.2.2.2.2.2.2.1, .int u.2.2.2.2.2.2.2.2.2.2.2.2.2.2.2.2.2.2.2.2.1])), (i1A_degrees, .inl (g.2.1 0, 4, .inl u.2.2.2.2.2.2.2.2.2.2.2.2.2.2.2.2.2.2.2.2.2.1)), (i1A_brown, .inl (g.2.1 0, 4, .inl u.2.2.2.2.2.2.2.2.2.2.2.2.2.2.2.2.2.2.2.2.2.2))]) := by
  refine x_startI (cc := cX4_keep) (maxL := 2) (by decide) rfl (Nat.le_of_ble_eq_true rfl) ?_
  intro p e s m args below meth c Q A ls H locs hx hb hml hown hts hK hX hP hD hS hA hl RET
  have hown : s.vm.findClass RX4 = some m.cls := hown
  have hl : lv_has ls 2 [(0, .ref tA), (1, .int a1)] := hl
  obtain ⟨o_0, hO⟩ : ∃ z, z = F_X4_keep t_kept m_down m_degrees m_brown m_core m_water m_pricked m_thinSpots m_seconds m_gone m_splitAt m_steam i0_down i0_degrees i0_brown i0_core i0_water i0_pricked i0_thinSpots i0_seconds i0_gone i0_splitAt i0_steam i1_down i1_degrees i1_brown i1_core i1_water i1_pricked i1_thinSpots i1_seconds i1_gone i1_splitAt i1_steam a1 := ⟨_, rfl⟩
  have E := hO
  rw [F_X4_keep.eq_1] at E
  refine lv_iload_n hx hb dX4_keep_0 rfl (lv_at hl 1 rfl) ?_
  refine lv_iconst (v := 0) hx hb dX4_keep_1 (by decide) ?_
  refine lv_iconst (v := 1) hx hb dX4_keep_2 (by decide) ?_
  refine x_callS0 ⟨hx, hb, hml, hown, hts⟩ hK hX hP hD hS hA (m_X4_outside l g a1 0 1) (va_cwS 3 hts (x_gS kw_115 kw_116 kw_2 kw_117) rfl rfl rfl vX4_outsideS ⟨Nat.le_of_ble_eq_true rfl, Nat.le_of_ble_eq_true rfl⟩) rfl hl.1 rfl (Nat.le_of_ble_eq_true rfl) dX4_keep_3 ⟨Nat.zero_le _, Nat.zero_le _⟩ (fun z_1 _ H locs hw_2 hP hD hS => ?_)
  obtain ⟨hw_2, b_3⟩ := hw_2
  have E := x_nm_eq E hw_2
  refine lv_if_eq (tgt := 11) hx hb dX4_keep_6 (by decide) (fun c_5 => ?_) (fun c_5 => ?_)
  · have E := x_pos E c_5
    obtain ⟨j_7, hj⟩ : ∃ z, z = (a1).toNatClampNeg := ⟨_, rfl⟩
    have r_6_0 := (x_outs (lo := 0) (hi := 1) (by omega) (by omega) (hw_2.symm.trans c_5))
    rw [← hj] at r_6_0
    obtain ⟨r_6_0_a, r_6_0_b, e_6_0⟩ := r_6_0
    have E := x_nm_eq E hj
    have hl : lv_has ls 2 [(0, .ref tA), (1, .int (nI j_7))] := by rw [e_6_0] at hl; exact hl
    refine lv_aload_n hx hb dX4_keep_11 rfl (lv_at hl 0 rfl) ?_
    refine va_get (ci := 4) (v := .ref tA_images) (C := RX4) (T := TX4) (N := 14) hx hb hts inlX4 hown hK.1 hP 0 rfl rfl 6 (by decide) (hts _ kw_31) (fun _ h9 => h9) rfl dX4_keep_12 ?_
    refine lv_iload_n hx hb dX4_keep_15 rfl (lv_at hl 1 rfl) ?_
    by_cases c_8 : j_7 = 0
    · have E := x_pos E c_8
      refine x_aald hx hb hK hP 4 j_7 rfl (by omega) (by decide) (z := i0A) (by rw [show j_7 = 0 by omega]; exact h_0) dX4_keep_16 ?_
      refine lv_aload_n hx hb dX4_keep_17 rfl (lv_at hl 0 rfl) ?_
      refine va_get (ci := 4) (v := .ref mA) (C := RX4) (T := TX4) (N := 14) hx hb hts inlX4 hown hK.1 hP 0 rfl rfl 4 (by decide) (hts _ kw_26) (fun _ h9 => h9) rfl dX4_keep_18 ?_
      refine x_callVv (w2 := fun u => [(tA, .inr (4, [.ref rA, .ref dA, .ref cA, .ref eA, .ref mA, .ref jA, .ref tA_images, .ref tA_kept, .ref tA_heats, .ref tA_salts, .ref tA_crumbsOf, .int (nI t_tests), .long t_traced, .int t_dryWeight])), (mA, .inr (1, [.int m_down, .ref mA_degrees, .ref mA_brown, .int m_core, .int m_water, .int m_pricked, .int m_thinSpots, .int m_seconds, .int m_gone, .int m_splitAt, .int m_steam])), (mA_degrees, .inl (g.2.1 0, 4, .inl m_degrees)), (mA_brown, .inl (g.2.1 0, 4, .inl m_brown)), (tA_images, .inl (g.2.1 3, 2, .inr (.inr (.inr (.inr t_images))))), (tA_kept, .inl (g.2.1 1, 2, .inl t_kept)), (i0A, .inr (1, [.int u.1, .ref i0A_degrees, .ref i0A_brown, .int u.2.1, .int u.2.2.1, .int u.2.2.2.1, .int u.2.2.2.2.1, .int u.2.2.2.2.2.1, .int u.2.2.2.2.2.2.1, .int u.2.2.2.2.2.2.2.1, .int u.2.2.2.2.2.2.2.2.1])), (i0A_degrees, .inl (g.2.1 0, 4, .inl u.2.2.2.2.2.2.2.2.2.1)), (i0A_brown, .inl (g.2.1 0, 4, .inl u.2.2.2.2.2.2.2.2.2.2)), (i1A, .inr (1, [.int i1_down, .ref i1A_degrees, .ref i1A_brown, .int i1_core, .int i1_water, .int i1_pricked, .int i1_thinSpots, .int i1_seconds, .int i1_gone, .int i1_splitAt, .int i1_steam])), (i1A_degrees, .inl (g.2.1 0, 4, .inl i1_degrees)), (i1A_brown, .inl (g.2.1 0, 4, .inl i1_brown))]) (wr := [(tA, .inr (4, [.ref rA, .ref dA, .ref cA, .ref eA, .ref mA, .ref jA, .ref tA_images, .ref tA_kept, .ref tA_heats, .ref tA_salts, .ref tA_crumbsOf, .int (nI t_tests), .long t_traced, .int t_dryWeight])), (tA_images, .inl (g.2.1 3, 2, .inr (.inr (.inr (.inr t_images))))), (tA_kept, .inl (g.2.1 1, 2, .inl t_kept)), (i1A, .inr (1, [.int i1_down, .ref i1A_degrees, .ref i1A_brown, .int i1_core, .int i1_water, .int i1_pricked, .int i1_thinSpots, .int i1_seconds, .int i1_gone, .int i1_splitAt, .int i1_steam])), (i1A_degrees, .inl (g.2.1 0, 4, .inl i1_degrees)), (i1A_brown, .inl (g.2.1 0, 4, .inl i1_brown))]) [6, 7, 8, 1, 2, 3] [0, 4, 5, 9, 10, 11] [0, 9, 10, 11, 1, 2, 6, 7, 8, 3, 4, 5] 6 1 ⟨hx, hb, hml, hown, hts⟩ hK hX hP hD hS hA (m_X1_take l g i0A i0A_degrees i0A_brown mA mA_degrees mA_brown i0_down i0_core i0_water i0_pricked i0_thinSpots i0_seconds i0_gone i0_splitAt i0_steam i0_degrees i0_brown m_down m_core m_water m_pricked m_thinSpots m_seconds m_gone m_splitAt m_steam m_degrees m_brown) (cwV 1 hts (x_gV kw_855 kw_856 kw_857 kw_25 kw_858) rfl rfl rfl vX1_take ⟨Nat.le_of_ble_eq_true rfl, Nat.le_of_ble_eq_true rfl⟩) rfl rfl rfl rfl rfl rfl rfl (by decide) (fun _ => rfl) rfl rfl hl.1 rfl (Nat.le_of_ble_eq_true rfl) dX4_keep_21 ⟨Nat.zero_le _, Nat.zero_le _⟩ (fun u H locs hw_20 hP hD hS => ?_)
      obtain ⟨i0_down_9, i0_core_10, i0_water_11, i0_pricked_12, i0_thinSpots_13, i0_seconds_14, i0_gone_15, i0_splitAt_16, i0_steam_17, i0_degrees_18, i0_brown_19⟩ := u
      have hP : va_P g.1 vwCl [(tA, .inr (4, [.ref rA, .ref dA, .ref cA, .ref eA, .ref mA, .ref jA, .ref tA_images, .ref tA_kept, .ref tA_heats, .ref tA_salts, .ref tA_crumbsOf, .int (nI t_tests), .long t_traced, .int t_dryWeight])), (mA, .inr (1, [.int m_down, .ref mA_degrees, .ref mA_brown, .int m_core, .int m_water, .int m_pricked, .int m_thinSpots, .int m_seconds, .int m_gone, .int m_splitAt, .int m_steam])), (mA_degrees, .inl (g.2.1 0, 4, .inl m_degrees)), (mA_brown, .inl (g.2.1 0, 4, .inl m_brown)), (tA_images, .inl (g.2.1 3, 2, .inr (.inr (.inr (.inr t_images))))), (tA_kept, .inl (g.2.1 1, 2, .inl t_kept)), (i0A, .inr (1, [.int i0_down_9, .ref i0A_degrees, .ref i0A_brown, .int i0_core_10, .int i0_water_11, .int i0_pricked_12, .int i0_thinSpots_13, .int i0_seconds_14, .int i0_gone_15, .int i0_splitAt_16, .int i0_steam_17])), (i0A_degrees, .inl (g.2.1 0, 4, .inl i0_degrees_18)), (i0A_brown, .inl (g.2.1 0, 4, .inl i0_brown_19)), (i1A, .inr (1, [.int i1_down, .ref i1A_degrees, .ref i1A_brown, .int i1_core, .int i1_water, .int i1_pricked, .int i1_thinSpots, .int i1_seconds, .int i1_gone, .int i1_splitAt, .int i1_steam])), (i1A_degrees, .inl (g.2.1 0, 4, .inl i1_degrees)), (i1A_brown, .inl (g.2.1 0, 4, .inl i1_brown))] H := hP
      have hD : va_D A [(tA, .inr (4, [.ref rA, .ref dA, .ref cA, .ref eA, .ref mA, .ref jA, .ref tA_images, .ref tA_kept, .ref tA_heats, .ref tA_salts, .ref tA_crumbsOf, .int (nI t_tests), .long t_traced, .int t_dryWeight])), (mA, .inr (1, [.int m_down, .ref mA_degrees, .ref mA_brown, .int m_core, .int m_water, .int m_pricked, .int m_thinSpots, .int m_seconds, .int m_gone, .int m_splitAt, .int m_steam])), (mA_degrees, .inl (g.2.1 0, 4, .inl m_degrees)), (mA_brown, .inl (g.2.1 0, 4, .inl m_brown)), (tA_images, .inl (g.2.1 3, 2, .inr (.inr (.inr (.inr t_images))))), (tA_kept, .inl (g.2.1 1, 2, .inl t_kept)), (i0A, .inr (1, [.int i0_down_9, .ref i0A_degrees, .ref i0A_brown, .int i0_core_10, .int i0_water_11, .int i0_pricked_12, .int i0_thinSpots_13, .int i0_seconds_14, .int i0_gone_15, .int i0_splitAt_16, .int i0_steam_17])), (i0A_degrees, .inl (g.2.1 0, 4, .inl i0_degrees_18)), (i0A_brown, .inl (g.2.1 0, 4, .inl i0_brown_19)), (i1A, .inr (1, [.int i1_down, .ref i1A_degrees, .ref i1A_brown, .int i1_core, .int i1_water, .int i1_pricked, .int i1_thinSpots, .int i1_seconds, .int i1_gone, .int i1_splitAt, .int i1_steam])), (i1A_degrees, .inl (g.2.1 0, 4, .inl i1_degrees)), (i1A_brown, .inl (g.2.1 0, 4, .inl i1_brown))] := hD
      have E := x_nm_eq E hw_20
      refine lv_aload_n hx hb dX4_keep_24 rfl (lv_at hl 0 rfl) ?_
      refine va_get (ci := 4) (v := .ref tA_kept) (C := RX4) (T := TX4) (N := 14) hx hb hts inlX4 hown hK.1 hP 0 rfl rfl 7 (by decide) (hts _ kw_33) (fun _ h9 => h9) rfl dX4_keep_25 ?_
      refine lv_iload_n hx hb dX4_keep_28 rfl (lv_at hl 1 rfl) ?_
      refine lv_iconst (v := 1) hx hb dX4_keep_29 (by decide) ?_
      refine x_zastN hx hb hK hP hD hS 5 j_7 rfl (by omega) (by decide) dX4_keep_30 (x_nar0 (Or.inr rfl)) (fun t_kept_22 H locs hf hP hD hS => ?_)
      have hP : va_P g.1 vwCl [(tA, .inr (4, [.ref rA, .ref dA, .ref cA, .ref eA, .ref mA, .ref jA, .ref tA_images, .ref tA_kept, .ref tA_heats, .ref tA_salts, .ref tA_crumbsOf, .int (nI t_tests), .long t_traced, .int t_dryWeight])), (mA, .inr (1, [.int m_down, .ref mA_degrees, .ref mA_brown, .int m_core, .int m_water, .int m_pricked, .int m_thinSpots, .int m_seconds, .int m_gone, .int m_splitAt, .int m_steam])), (mA_degrees, .inl (g.2.1 0, 4, .inl m_degrees)), (mA_brown, .inl (g.2.1 0, 4, .inl m_brown)), (tA_images, .inl (g.2.1 3, 2, .inr (.inr (.inr (.inr t_images))))), (tA_kept, .inl (g.2.1 1, 2, .inl t_kept_22)), (i0A, .inr (1, [.int i0_down_9, .ref i0A_degrees, .ref i0A_brown, .int i0_core_10, .int i0_water_11, .int i0_pricked_12, .int i0_thinSpots_13, .int i0_seconds_14, .int i0_gone_15, .int i0_splitAt_16, .int i0_steam_17])), (i0A_degrees, .inl (g.2.1 0, 4, .inl i0_degrees_18)), (i0A_brown, .inl (g.2.1 0, 4, .inl i0_brown_19)), (i1A, .inr (1, [.int i1_down, .ref i1A_degrees, .ref i1A_brown, .int i1_core, .int i1_water, .int i1_pricked, .int i1_thinSpots, .int i1_seconds, .int i1_gone, .int i1_splitAt, .int i1_steam])), (i1A_degrees, .inl (g.2.1 0, 4, .inl i1_degrees)), (i1A_brown, .inl (g.2.1 0, 4, .inl i1_brown))] H := hP
      have hD : va_D A [(tA, .inr (4, [.ref rA, .ref dA, .ref cA, .ref eA, .ref mA, .ref jA, .ref tA_images, .ref tA_kept, .ref tA_heats, .ref tA_salts, .ref tA_crumbsOf, .int (nI t_tests), .long t_traced, .int t_dryWeight])), (mA, .inr (1, [.int m_down, .ref mA_degrees, .ref mA_brown, .int m_core, .int m_water, .int m_pricked, .int m_thinSpots, .int m_seconds, .int m_gone, .int m_splitAt, .int m_steam])), (mA_degrees, .inl (g.2.1 0, 4, .inl m_degrees)), (mA_brown, .inl (g.2.1 0, 4, .inl m_brown)), (tA_images, .inl (g.2.1 3, 2, .inr (.inr (.inr (.inr t_images))))), (tA_kept, .inl (g.2.1 1, 2, .inl t_kept_22)), (i0A, .inr (1, [.int i0_down_9, .ref i0A_degrees, .ref i0A_brown, .int i0_core_10, .int i0_water_11, .int i0_pricked_12, .int i0_thinSpots_13, .int i0_seconds_14, .int i0_gone_15, .int i0_splitAt_16, .int i0_steam_17])), (i0A_degrees, .inl (g.2.1 0, 4, .inl i0_degrees_18)), (i0A_brown, .inl (g.2.1 0, 4, .inl i0_brown_19)), (i1A, .inr (1, [.int i1_down, .ref i1A_degrees, .ref i1A_brown, .int i1_core, .int i1_water, .int i1_pricked, .int i1_thinSpots, .int i1_seconds, .int i1_gone, .int i1_splitAt, .int i1_steam])), (i1A_degrees, .inl (g.2.1 0, 4, .inl i1_degrees)), (i1A_brown, .inl (g.2.1 0, 4, .inl i1_brown))] := hD
      have E := x_nm_eq E hf
      refine lv_aload_n hx hb dX4_keep_31 rfl (lv_at hl 0 rfl) ?_
      refine va_get (ci := 4) (v := .ref mA) (C := RX4) (T := TX4) (N := 14) hx hb hts inlX4 hown hK.1 hP 0 rfl rfl 4 (by decide) (hts _ kw_26) (fun _ h9 => h9) rfl dX4_keep_32 ?_
      refine va_get (ci := 1) (v := .int m_seconds) (C := RX1) (T := TX1) (N := 11) hx hb hts inlX1 hown hK.1 hP 1 rfl rfl 7 (by decide) (hts _ kw_535) (fun _ h9 => h9) rfl dX4_keep_35 ?_
      exact RET m_seconds (t_kept_22, i0_down_9, i0_core_10, i0_water_11, i0_pricked_12, i0_thinSpots_13, i0_seconds_14, i0_gone_15, i0_splitAt_16, i0_steam_17, i0_degrees_18, i0_brown_19, i1_down, i1_core, i1_water, i1_pricked, i1_thinSpots, i1_seconds, i1_gone, i1_splitAt, i1_steam, i1_degrees, i1_brown) H locs _ _ (E.symm.trans hO) rfl hP hD hS dX4_keep_38
    · have E := x_neg E c_8
      refine x_aald hx hb hK hP 4 j_7 rfl (by omega) (by decide) (z := i1A) (by rw [show j_7 = 1 by omega]; exact h_1) dX4_keep_16 ?_
      refine lv_aload_n hx hb dX4_keep_17 rfl (lv_at hl 0 rfl) ?_
      refine va_get (ci := 4) (v := .ref mA) (C := RX4) (T := TX4) (N := 14) hx hb hts inlX4 hown hK.1 hP 0 rfl rfl 4 (by decide) (hts _ kw_26) (fun _ h9 => h9) rfl dX4_keep_18 ?_
      refine x_callVv (w2 := fun u => [(tA, .inr (4, [.ref rA, .ref dA, .ref cA, .ref eA, .ref mA, .ref jA, .ref tA_images, .ref tA_kept, .ref tA_heats, .ref tA_salts, .ref tA_crumbsOf, .int (nI t_tests), .long t_traced, .int t_dryWeight])), (mA, .inr (1, [.int m_down, .ref mA_degrees, .ref mA_brown, .int m_core, .int m_water, .int m_pricked, .int m_thinSpots, .int m_seconds, .int m_gone, .int m_splitAt, .int m_steam])), (mA_degrees, .inl (g.2.1 0, 4, .inl m_degrees)), (mA_brown, .inl (g.2.1 0, 4, .inl m_brown)), (tA_images, .inl (g.2.1 3, 2, .inr (.inr (.inr (.inr t_images))))), (tA_kept, .inl (g.2.1 1, 2, .inl t_kept)), (i0A, .inr (1, [.int i0_down, .ref i0A_degrees, .ref i0A_brown, .int i0_core, .int i0_water, .int i0_pricked, .int i0_thinSpots, .int i0_seconds, .int i0_gone, .int i0_splitAt, .int i0_steam])), (i0A_degrees, .inl (g.2.1 0, 4, .inl i0_degrees)), (i0A_brown, .inl (g.2.1 0, 4, .inl i0_brown)), (i1A, .inr (1, [.int u.1, .ref i1A_degrees, .ref i1A_brown, .int u.2.1, .int u.2.2.1, .int u.2.2.2.1, .int u.2.2.2.2.1, .int u.2.2.2.2.2.1, .int u.2.2.2.2.2.2.1, .int u.2.2.2.2.2.2.2.1, .int u.2.2.2.2.2.2.2.2.1])), (i1A_degrees, .inl (g.2.1 0, 4, .inl u.2.2.2.2.2.2.2.2.2.1)), (i1A_brown, .inl (g.2.1 0, 4, .inl u.2.2.2.2.2.2.2.2.2.2))]) (wr := [(tA, .inr (4, [.ref rA, .ref dA, .ref cA, .ref eA, .ref mA, .ref jA, .ref tA_images, .ref tA_kept, .ref tA_heats, .ref tA_salts, .ref tA_crumbsOf, .int (nI t_tests), .long t_traced, .int t_dryWeight])), (tA_images, .inl (g.2.1 3, 2, .inr (.inr (.inr (.inr t_images))))), (tA_kept, .inl (g.2.1 1, 2, .inl t_kept)), (i0A, .inr (1, [.int i0_down, .ref i0A_degrees, .ref i0A_brown, .int i0_core, .int i0_water, .int i0_pricked, .int i0_thinSpots, .int i0_seconds, .int i0_gone, .int i0_splitAt, .int i0_steam])), (i0A_degrees, .inl (g.2.1 0, 4, .inl i0_degrees)), (i0A_brown, .inl (g.2.1 0, 4, .inl i0_brown))]) [9, 10, 11, 1, 2, 3] [0, 4, 5, 6, 7, 8] [0, 9, 10, 11, 1, 2, 3, 4, 5, 6, 7, 8] 9 1 ⟨hx, hb, hml, hown, hts⟩ hK hX hP hD hS hA (m_X1_take l g i1A i1A_degrees i1A_brown mA mA_degrees mA_brown i1_down i1_core i1_water i1_pricked i1_thinSpots i1_seconds i1_gone i1_splitAt i1_steam i1_degrees i1_brown m_down m_core m_water m_pricked m_thinSpots m_seconds m_gone m_splitAt m_steam m_degrees m_brown) (cwV 1 hts (x_gV kw_855 kw_856 kw_857 kw_25 kw_858) rfl rfl rfl vX1_take ⟨Nat.le_of_ble_eq_true rfl, Nat.le_of_ble_eq_true rfl⟩) rfl rfl rfl rfl rfl rfl rfl (by decide) (fun _ => rfl) rfl rfl hl.1 rfl (Nat.le_of_ble_eq_true rfl) dX4_keep_21 ⟨Nat.zero_le _, Nat.zero_le _⟩ (fun u H locs hw_34 hP hD hS => ?_)
      obtain ⟨i1_down_23, i1_core_24, i1_water_25, i1_pricked_26, i1_thinSpots_27, i1_seconds_28, i1_gone_29, i1_splitAt_30, i1_steam_31, i1_degrees_32, i1_brown_33⟩ := u
      have hP : va_P g.1 vwCl [(tA, .inr (4, [.ref rA, .ref dA, .ref cA, .ref eA, .ref mA, .ref jA, .ref tA_images, .ref tA_kept, .ref tA_heats, .ref tA_salts, .ref tA_crumbsOf, .int (nI t_tests), .long t_traced, .int t_dryWeight])), (mA, .inr (1, [.int m_down, .ref mA_degrees, .ref mA_brown, .int m_core, .int m_water, .int m_pricked, .int m_thinSpots, .int m_seconds, .int m_gone, .int m_splitAt, .int m_steam])), (mA_degrees, .inl (g.2.1 0, 4, .inl m_degrees)), (mA_brown, .inl (g.2.1 0, 4, .inl m_brown)), (tA_images, .inl (g.2.1 3, 2, .inr (.inr (.inr (.inr t_images))))), (tA_kept, .inl (g.2.1 1, 2, .inl t_kept)), (i0A, .inr (1, [.int i0_down, .ref i0A_degrees, .ref i0A_brown, .int i0_core, .int i0_water, .int i0_pricked, .int i0_thinSpots, .int i0_seconds, .int i0_gone, .int i0_splitAt, .int i0_steam])), (i0A_degrees, .inl (g.2.1 0, 4, .inl i0_degrees)), (i0A_brown, .inl (g.2.1 0, 4, .inl i0_brown)), (i1A, .inr (1, [.int i1_down_23, .ref i1A_degrees, .ref i1A_brown, .int i1_core_24, .int i1_water_25, .int i1_pricked_26, .int i1_thinSpots_27, .int i1_seconds_28, .int i1_gone_29, .int i1_splitAt_30, .int i1_steam_31])), (i1A_degrees, .inl (g.2.1 0, 4, .inl i1_degrees_32)), (i1A_brown, .inl (g.2.1 0, 4, .inl i1_brown_33))] H := hP
      have hD : va_D A [(tA, .inr (4, [.ref rA, .ref dA, .ref cA, .ref eA, .ref mA, .ref jA, .ref tA_images, .ref tA_kept, .ref tA_heats, .ref tA_salts, .ref tA_crumbsOf, .int (nI t_tests), .long t_traced, .int t_dryWeight])), (mA, .inr (1, [.int m_down, .ref mA_degrees, .ref mA_brown, .int m_core, .int m_water, .int m_pricked, .int m_thinSpots, .int m_seconds, .int m_gone, .int m_splitAt, .int m_steam])), (mA_degrees, .inl (g.2.1 0, 4, .inl m_degrees)), (mA_brown, .inl (g.2.1 0, 4, .inl m_brown)), (tA_images, .inl (g.2.1 3, 2, .inr (.inr (.inr (.inr t_images))))), (tA_kept, .inl (g.2.1 1, 2, .inl t_kept)), (i0A, .inr (1, [.int i0_down, .ref i0A_degrees, .ref i0A_brown, .int i0_core, .int i0_water, .int i0_pricked, .int i0_thinSpots, .int i0_seconds, .int i0_gone, .int i0_splitAt, .int i0_steam])), (i0A_degrees, .inl (g.2.1 0, 4, .inl i0_degrees)), (i0A_brown, .inl (g.2.1 0, 4, .inl i0_brown)), (i1A, .inr (1, [.int i1_down_23, .ref i1A_degrees, .ref i1A_brown, .int i1_core_24, .int i1_water_25, .int i1_pricked_26, .int i1_thinSpots_27, .int i1_seconds_28, .int i1_gone_29, .int i1_splitAt_30, .int i1_steam_31])), (i1A_degrees, .inl (g.2.1 0, 4, .inl i1_degrees_32)), (i1A_brown, .inl (g.2.1 0, 4, .inl i1_brown_33))] := hD
      have E := x_nm_eq E hw_34
      refine lv_aload_n hx hb dX4_keep_24 rfl (lv_at hl 0 rfl) ?_
      refine va_get (ci := 4) (v := .ref tA_kept) (C := RX4) (T := TX4) (N := 14) hx hb hts inlX4 hown hK.1 hP 0 rfl rfl 7 (by decide) (hts _ kw_33) (fun _ h9 => h9) rfl dX4_keep_25 ?_
      refine lv_iload_n hx hb dX4_keep_28 rfl (lv_at hl 1 rfl) ?_
      refine lv_iconst (v := 1) hx hb dX4_keep_29 (by decide) ?_
      refine x_zastN hx hb hK hP hD hS 5 j_7 rfl (by omega) (by decide) dX4_keep_30 (x_nar0 (Or.inr rfl)) (fun t_kept_36 H locs hf hP hD hS => ?_)
      have hP : va_P g.1 vwCl [(tA, .inr (4, [.ref rA, .ref dA, .ref cA, .ref eA, .ref mA, .ref jA, .ref tA_images, .ref tA_kept, .ref tA_heats, .ref tA_salts, .ref tA_crumbsOf, .int (nI t_tests), .long t_traced, .int t_dryWeight])), (mA, .inr (1, [.int m_down, .ref mA_degrees, .ref mA_brown, .int m_core, .int m_water, .int m_pricked, .int m_thinSpots, .int m_seconds, .int m_gone, .int m_splitAt, .int m_steam])), (mA_degrees, .inl (g.2.1 0, 4, .inl m_degrees)), (mA_brown, .inl (g.2.1 0, 4, .inl m_brown)), (tA_images, .inl (g.2.1 3, 2, .inr (.inr (.inr (.inr t_images))))), (tA_kept, .inl (g.2.1 1, 2, .inl t_kept_36)), (i0A, .inr (1, [.int i0_down, .ref i0A_degrees, .ref i0A_brown, .int i0_core, .int i0_water, .int i0_pricked, .int i0_thinSpots, .int i0_seconds, .int i0_gone, .int i0_splitAt, .int i0_steam])), (i0A_degrees, .inl (g.2.1 0, 4, .inl i0_degrees)), (i0A_brown, .inl (g.2.1 0, 4, .inl i0_brown)), (i1A, .inr (1, [.int i1_down_23, .ref i1A_degrees, .ref i1A_brown, .int i1_core_24, .int i1_water_25, .int i1_pricked_26, .int i1_thinSpots_27, .int i1_seconds_28, .int i1_gone_29, .int i1_splitAt_30, .int i1_steam_31])), (i1A_degrees, .inl (g.2.1 0, 4, .inl i1_degrees_32)), (i1A_brown, .inl (g.2.1 0, 4, .inl i1_brown_33))] H := hP
      have hD : va_D A [(tA, .inr (4, [.ref rA, .ref dA, .ref cA, .ref eA, .ref mA, .ref jA, .ref tA_images, .ref tA_kept, .ref tA_heats, .ref tA_salts, .ref tA_crumbsOf, .int (nI t_tests), .long t_traced, .int t_dryWeight])), (mA, .inr (1, [.int m_down, .ref mA_degrees, .ref mA_brown, .int m_core, .int m_water, .int m_pricked, .int m_thinSpots, .int m_seconds, .int m_gone, .int m_splitAt, .int m_steam])), (mA_degrees, .inl (g.2.1 0, 4, .inl m_degrees)), (mA_brown, .inl (g.2.1 0, 4, .inl m_brown)), (tA_images, .inl (g.2.1 3, 2, .inr (.inr (.inr (.inr t_images))))), (tA_kept, .inl (g.2.1 1, 2, .inl t_kept_36)), (i0A, .inr (1, [.int i0_down, .ref i0A_degrees, .ref i0A_brown, .int i0_core, .int i0_water, .int i0_pricked, .int i0_thinSpots, .int i0_seconds, .int i0_gone, .int i0_splitAt, .int i0_steam])), (i0A_degrees, .inl (g.2.1 0, 4, .inl i0_degrees)), (i0A_brown, .inl (g.2.1 0, 4, .inl i0_brown)), (i1A, .inr (1, [.int i1_down_23, .ref i1A_degrees, .ref i1A_brown, .int i1_core_24, .int i1_water_25, .int i1_pricked_26, .int i1_thinSpots_27, .int i1_seconds_28, .int i1_gone_29, .int i1_splitAt_30, .int i1_steam_31])), (i1A_degrees, .inl (g.2.1 0, 4, .inl i1_degrees_32)), (i1A_brown, .inl (g.2.1 0, 4, .inl i1_brown_33))] := hD
      have E := x_nm_eq E hf
      refine lv_aload_n hx hb dX4_keep_31 rfl (lv_at hl 0 rfl) ?_
      refine va_get (ci := 4) (v := .ref mA) (C := RX4) (T := TX4) (N := 14) hx hb hts inlX4 hown hK.1 hP 0 rfl rfl 4 (by decide) (hts _ kw_26) (fun _ h9 => h9) rfl dX4_keep_32 ?_
      refine va_get (ci := 1) (v := .int m_seconds) (C := RX1) (T := TX1) (N := 11) hx hb hts inlX1 hown hK.1 hP 1 rfl rfl 7 (by decide) (hts _ kw_535) (fun _ h9 => h9) rfl dX4_keep_35 ?_
      exact RET m_seconds (t_kept_36, i0_down, i0_core, i0_water, i0_pricked, i0_thinSpots, i0_seconds, i0_gone, i0_splitAt, i0_steam, i0_degrees, i0_brown, i1_down_23, i1_core_24, i1_water_25, i1_pricked_26, i1_thinSpots_27, i1_seconds_28, i1_gone_29, i1_splitAt_30, i1_steam_31, i1_degrees_32, i1_brown_33) H locs _ _ (E.symm.trans hO) rfl hP hD hS dX4_keep_38
  · have E := x_neg E c_5
    refine lv_iconst (v := (-1)) hx hb dX4_keep_9 (by decide) ?_
    exact RET (-1) (t_kept, i0_down, i0_core, i0_water, i0_pricked, i0_thinSpots, i0_seconds, i0_gone, i0_splitAt, i0_steam, i0_degrees, i0_brown, i1_down, i1_core, i1_water, i1_pricked, i1_thinSpots, i1_seconds, i1_gone, i1_splitAt, i1_steam, i1_degrees, i1_brown) H locs _ _ (E.symm.trans hO) rfl hP hD hS dX4_keep_10
abbrev rX4_back : Room := { frames := 1, cells := 0, slots := 0, locals := 22 }
theorem vX4_back : yX4_back.cls = RX4 ∧ yX4_back.cls ≠ "java/lang/invoke/MethodHandle" ∧ yX4_back.cls ≠ "java/lang/invoke/VarHandle" ∧ (parseMethodDescriptor yX4_back.desc).map (fun d => d.parameters.length) = some 1 := by decide +kernel
abbrev wX4_back : List Cond := Cond.code yX4_back cX4_back 2 (some .int) :: wsL_law
def F_X4_back (t_kept : Nat → Int32) (m_down : Int32) (m_degrees : Nat → Int32) (m_brown : Nat → Int32) (m_core : Int32) (m_water : Int32) (m_pricked : Int32) (m_thinSpots : Int32) (m_seconds : Int32) (m_gone : Int32) (m_splitAt : Int32) (m_steam : Int32) (i0_down : Int32) (i0_degrees : Nat → Int32) (i0_brown : Nat → Int32) (i0_core : Int32) (i0_water : Int32) (i0_pricked : Int32) (i0_thinSpots : Int32) (i0_seconds : Int32) (i0_gone : Int32) (i0_splitAt : Int32) (i0_steam : Int32) (i1_down : Int32) (i1_degrees : Nat → Int32) (i1_brown : Nat → Int32) (i1_core : Int32) (i1_water : Int32) (i1_pricked : Int32) (i1_thinSpots : Int32) (i1_seconds : Int32) (i1_gone : Int32) (i1_splitAt : Int32) (i1_steam : Int32) (a1 : Int32) : Int32 × Int32 × Int32 × Int32 × Int32 × Int32 × Int32 × Int32 × Int32 × Int32 × (Nat → Int32) × (Nat → Int32) :=
  x_nm (F_X4_outside a1 0 1) fun z_1 => if z_1 = 0 then x_nm (a1.toNatClampNeg) fun j_7 => if (t_kept j_7) = 0 then ((-2), m_down, m_core, m_water, m_pricked, m_thinSpots, m_seconds, m_gone, m_splitAt, m_steam, m_degrees, m_brown) else if j_7 = 0 then x_nm (F_X1_take m_degrees m_brown i0_down i0_degrees i0_brown i0_core i0_water i0_pricked i0_thinSpots i0_seconds i0_gone i0_splitAt i0_steam) fun u_22 => (u_22.2.2.2.2.2.1, u_22.1, u_22.2.1, u_22.2.2.1, u_22.2.2.2.1, u_22.2.2.2.2.1, u_22.2.2.2.2.2.1, u_22.2.2.2.2.2.2.1, u_22.2.2.2.2.2.2.2.1, u_22.2.2.2.2.2.2.2.2.1, u_22.2.2.2.2.2.2.2.2.2.1, u_22.2.2.2.2.2.2.2.2.2.2) else x_nm (F_X1_take m_degrees m_brown i1_down i1_degrees i1_brown i1_core i1_water i1_pricked i1_thinSpots i1_seconds i1_gone i1_splitAt i1_steam) fun u_35 => (u_35.2.2.2.2.2.1, u_35.1, u_35.2.1, u_35.2.2.1, u_35.2.2.2.1, u_35.2.2.2.2.1, u_35.2.2.2.2.2.1, u_35.2.2.2.2.2.2.1, u_35.2.2.2.2.2.2.2.1, u_35.2.2.2.2.2.2.2.2.1, u_35.2.2.2.2.2.2.2.2.2.1, u_35.2.2.2.2.2.2.2.2.2.2) else ((-1), m_down, m_core, m_water, m_pricked, m_thinSpots, m_seconds, m_gone, m_splitAt, m_steam, m_degrees, m_brown)
set_option maxHeartbeats 4000000 in
set_option maxRecDepth 100000 in
theorem m_X4_back (l : Launch) (g : x_G) (tA mA mA_degrees mA_brown tA_images tA_kept i0A i0A_degrees i0A_brown i1A i1A_degrees i1A_brown rA dA cA eA jA tA_heats tA_salts tA_crumbsOf : Nat) (t_tests : Nat) (t_traced : Int64) (t_dryWeight : Int32) (m_down : Int32) (m_core : Int32) (m_water : Int32) (m_pricked : Int32) (m_thinSpots : Int32) (m_seconds : Int32) (m_gone : Int32) (m_splitAt : Int32) (m_steam : Int32) (m_degrees : Nat → Int32) (m_brown : Nat → Int32) (t_images : Nat → Option Nat) (t_kept : Nat → Int32) (i0_down : Int32) (i0_core : Int32) (i0_water : Int32) (i0_pricked : Int32) (i0_thinSpots : Int32) (i0_seconds : Int32) (i0_gone : Int32) (i0_splitAt : Int32) (i0_steam : Int32) (i0_degrees : Nat → Int32) (i0_brown : Nat → Int32) (i1_down : Int32) (i1_core : Int32) (i1_water : Int32) (i1_pricked : Int32) (i1_thinSpots : Int32) (i1_seconds : Int32) (i1_gone : Int32) (i1_splitAt : Int32) (i1_steam : Int32) (i1_degrees : Nat → Int32) (i1_brown : Nat → Int32) (a1 : Int32) (h_0 : t_images 0 = some i0A) (h_1 : t_images 1 = some i1A) : x_MetI l yX4_back wX4_back rX4_back g [.ref tA, .int a1] [(tA, .inr (4, [.ref rA, .ref dA, .ref cA, .ref eA, .ref mA, .ref jA, .ref tA_images, .ref tA_kept, .ref tA_heats, .ref tA_salts, .ref tA_crumbsOf, .int (nI t_tests), .long t_traced, .int t_dryWeight])), (mA, .inr (1, [.int m_down, .ref mA_degrees, .ref mA_brown, .int m_core, .int m_water, .int m_pricked, .int m_thinSpots, .int m_seconds, .int m_gone, .int m_splitAt, .int m_steam])), (mA_degrees, .inl (g.2.1 0, 4, .inl m_degrees)), (mA_brown, .inl (g.2.1 0, 4, .inl m_brown)), (tA_images, .inl (g.2.1 3, 2, .inr (.inr (.inr (.inr t_images))))), (tA_kept, .inl (g.2.1 1, 2, .inl t_kept)), (i0A, .inr (1, [.int i0_down, .ref i0A_degrees, .ref i0A_brown, .int i0_core, .int i0_water, .int i0_pricked, .int i0_thinSpots, .int i0_seconds, .int i0_gone, .int i0_splitAt, .int i0_steam])), (i0A_degrees, .inl (g.2.1 0, 4, .inl i0_degrees)), (i0A_brown, .inl (g.2.1 0, 4, .inl i0_brown)), (i1A, .inr (1, [.int i1_down, .ref i1A_degrees, .ref i1A_brown, .int i1_core, .int i1_water, .int i1_pricked, .int i1_thinSpots, .int i1_seconds, .int i1_gone, .int i1_splitAt, .int i1_steam])), (i1A_degrees, .inl (g.2.1 0, 4, .inl i1_degrees)), (i1A_brown, .inl (g.2.1 0, 4, .inl i1_brown))] (fun (r : Int32) (u : Int32 × Int32 × Int32 × Int32 × Int32 × Int32 × Int32 × Int32 × Int32 × (Nat → Int32) × (Nat → Int32)) => (r, u) = F_X4_back t_kept m_down m_degrees m_brown m_core m_water m_pricked m_thinSpots m_seconds m_gone m_splitAt m_steam i0_down i0_degrees i0_brown i0_core i0_water i0_pricked i0_thinSpots i0_seconds i0_gone i0_splitAt i0_steam i1_down i1_degrees i1_brown i1_core i1_water i1_pricked i1_thinSpots i1_seconds i1_gone i1_splitAt i1_steam a1) (fun u => [(tA, .inr (4, [.ref rA, .ref dA, .ref cA, .ref eA, .ref mA, .ref jA, .ref tA_images, .ref tA_kept, .ref tA_heats, .ref tA_salts, .ref tA_crumbsOf, .int (nI t_tests), .long t_traced, .int t_dryWeight])), (mA, .inr (1, [.int u.1, .ref mA_degrees, .ref mA_brown, .int u.2.1, .int u.2.2.1, .int u.2.2.2.1, .int u.2.2.2.2.1, .int u.2.2.2.2.2.1, .int u.2.2.2.2.2.2.1, .int u.2.2.2.2.2.2.2.1, .int u.2.2.2.2.2.2.2.2.1])), (mA_degrees, .inl (g.2.1 0, 4, .inl u.2.2.2.2.2.2.2.2.2.1)), (mA_brown, .inl (g.2.1 0, 4, .inl u.2.2.2.2.2.2.2.2.2.2)), (tA_images, .inl (g.2.1 3, 2, .inr (.inr (.inr (.inr t_images))))), (tA_kept, .inl (g.2.1 1, 2, .inl t_kept)), (i0A, .inr (1, [.int i0_down, .ref i0A_degrees, .ref i0A_brown, .int i0_core, .int i0_water, .int i0_pricked, .int i0_thinSpots, .int i0_seconds, .int i0_gone, .int i0_splitAt, .int i0_steam])), (i0A_degrees, .inl (g.2.1 0, 4, .inl i0_degrees)), (i0A_brown, .inl (g.2.1 0, 4, .inl i0_brown)), (i1A, .inr (1, [.int i1_down, .ref i1A_degrees, .ref i1A_brown, .int i1_core, .int i1_water, .int i1_pricked, .int i1_thinSpots, .int i1_seconds, .int i1_gone, .int i1_splitAt, .int i1_steam])), (i1A_degrees, .inl (g.2.1 0, 4, .inl i1_degrees)), (i1A_brown, .inl (g.2.1 0, 4, .inl i1_brown))]) := by
  refine x_startI (cc := cX4_back) (maxL := 2) (by decide) rfl (Nat.le_of_ble_eq_true rfl) ?_
  intro p e s m args below meth c Q A ls H locs hx hb hml hown hts hK hX hP hD hS hA hl RET
  have hown : s.vm.findClass RX4 = some m.cls := hown
  have hl : lv_has ls 2 [(0, .ref tA), (1, .int a1)] := hl
  obtain ⟨o_0, hO⟩ : ∃ z, z = F_X4_back t_kept m_down m_degrees m_brown m_core m_water m_pricked m_thinSpots m_seconds m_gone m_splitAt m_steam i0_down i0_degrees i0_brown i0_core i0_water i0_pricked i0_thinSpots i0_seconds i0_gone i0_splitAt i0_steam i1_down i1_degrees i1_brown i1_core i1_water i1_pricked i1_thinSpots i1_seconds i1_gone i1_splitAt i1_steam a1 := ⟨_, rfl⟩
  have E := hO
  rw [F_X4_back.eq_1] at E
  refine lv_iload_n hx hb dX4_back_0 rfl (lv_at hl 1 rfl) ?_
  refine lv_iconst (v := 0) hx hb dX4_back_1 (by decide) ?_
  refine lv_iconst (v := 1) hx hb dX4_back_2 (by decide) ?_
  refine x_callS0 ⟨hx, hb, hml, hown, hts⟩ hK hX hP hD hS hA (m_X4_outside l g a1 0 1) (va_cwS 3 hts (x_gS kw_115 kw_116 kw_2 kw_117) rfl rfl rfl vX4_outsideS ⟨Nat.le_of_ble_eq_true rfl, Nat.le_of_ble_eq_true rfl⟩) rfl hl.1 rfl (Nat.le_of_ble_eq_true rfl) dX4_back_3 ⟨Nat.zero_le _, Nat.zero_le _⟩ (fun z_1 _ H locs hw_2 hP hD hS => ?_)
  obtain ⟨hw_2, b_3⟩ := hw_2
  have E := x_nm_eq E hw_2
  refine lv_if_eq (tgt := 11) hx hb dX4_back_6 (by decide) (fun c_5 => ?_) (fun c_5 => ?_)
  · have E := x_pos E c_5
    obtain ⟨j_7, hj⟩ : ∃ z, z = (a1).toNatClampNeg := ⟨_, rfl⟩
    have r_6_0 := (x_outs (lo := 0) (hi := 1) (by omega) (by omega) (hw_2.symm.trans c_5))
    rw [← hj] at r_6_0
    obtain ⟨r_6_0_a, r_6_0_b, e_6_0⟩ := r_6_0
    have E := x_nm_eq E hj
    have hl : lv_has ls 2 [(0, .ref tA), (1, .int (nI j_7))] := by rw [e_6_0] at hl; exact hl
    refine lv_aload_n hx hb dX4_back_11 rfl (lv_at hl 0 rfl) ?_
    refine va_get (ci := 4) (v := .ref tA_kept) (C := RX4) (T := TX4) (N := 14) hx hb hts inlX4 hown hK.1 hP 0 rfl rfl 7 (by decide) (hts _ kw_33) (fun _ h9 => h9) rfl dX4_back_12 ?_
    refine lv_iload_n hx hb dX4_back_15 rfl (lv_at hl 1 rfl) ?_
    refine x_zaldN hx hb hK hP 5 j_7 rfl (by omega) (by decide) dX4_back_16 ?_
    refine x_if_neI (tgt := 23) hx hb dX4_back_17 (by decide) (fun c_8 => ?_) (fun c_8 => ?_)
    · have E := x_neg E c_8
      refine lv_aload_n hx hb dX4_back_23 rfl (lv_at hl 0 rfl) ?_
      refine va_get (ci := 4) (v := .ref mA) (C := RX4) (T := TX4) (N := 14) hx hb hts inlX4 hown hK.1 hP 0 rfl rfl 4 (by decide) (hts _ kw_26) (fun _ h9 => h9) rfl dX4_back_24 ?_
      refine lv_aload_n hx hb dX4_back_27 rfl (lv_at hl 0 rfl) ?_
      refine va_get (ci := 4) (v := .ref tA_images) (C := RX4) (T := TX4) (N := 14) hx hb hts inlX4 hown hK.1 hP 0 rfl rfl 6 (by decide) (hts _ kw_31) (fun _ h9 => h9) rfl dX4_back_28 ?_
      refine lv_iload_n hx hb dX4_back_31 rfl (lv_at hl 1 rfl) ?_
      by_cases c_9 : j_7 = 0
      · have E := x_pos E c_9
        refine x_aald hx hb hK hP 4 j_7 rfl (by omega) (by decide) (z := i0A) (by rw [show j_7 = 0 by omega]; exact h_0) dX4_back_32 ?_
        refine x_callVv (w2 := fun u => [(tA, .inr (4, [.ref rA, .ref dA, .ref cA, .ref eA, .ref mA, .ref jA, .ref tA_images, .ref tA_kept, .ref tA_heats, .ref tA_salts, .ref tA_crumbsOf, .int (nI t_tests), .long t_traced, .int t_dryWeight])), (mA, .inr (1, [.int u.1, .ref mA_degrees, .ref mA_brown, .int u.2.1, .int u.2.2.1, .int u.2.2.2.1, .int u.2.2.2.2.1, .int u.2.2.2.2.2.1, .int u.2.2.2.2.2.2.1, .int u.2.2.2.2.2.2.2.1, .int u.2.2.2.2.2.2.2.2.1])), (mA_degrees, .inl (g.2.1 0, 4, .inl u.2.2.2.2.2.2.2.2.2.1)), (mA_brown, .inl (g.2.1 0, 4, .inl u.2.2.2.2.2.2.2.2.2.2)), (tA_images, .inl (g.2.1 3, 2, .inr (.inr (.inr (.inr t_images))))), (tA_kept, .inl (g.2.1 1, 2, .inl t_kept)), (i0A, .inr (1, [.int i0_down, .ref i0A_degrees, .ref i0A_brown, .int i0_core, .int i0_water, .int i0_pricked, .int i0_thinSpots, .int i0_seconds, .int i0_gone, .int i0_splitAt, .int i0_steam])), (i0A_degrees, .inl (g.2.1 0, 4, .inl i0_degrees)), (i0A_brown, .inl (g.2.1 0, 4, .inl i0_brown)), (i1A, .inr (1, [.int i1_down, .ref i1A_degrees, .ref i1A_brown, .int i1_core, .int i1_water, .int i1_pricked, .int i1_thinSpots, .int i1_seconds, .int i1_gone, .int i1_splitAt, .int i1_steam])), (i1A_degrees, .inl (g.2.1 0, 4, .inl i1_degrees)), (i1A_brown, .inl (g.2.1 0, 4, .inl i1_brown))]) (wr := [(tA, .inr (4, [.ref rA, .ref dA, .ref cA, .ref eA, .ref mA, .ref jA, .ref tA_images, .ref tA_kept, .ref tA_heats, .ref tA_salts, .ref tA_crumbsOf, .int (nI t_tests), .long t_traced, .int t_dryWeight])), (tA_images, .inl (g.2.1 3, 2, .inr (.inr (.inr (.inr t_images))))), (tA_kept, .inl (g.2.1 1, 2, .inl t_kept)), (i1A, .inr (1, [.int i1_down, .ref i1A_degrees, .ref i1A_brown, .int i1_core, .int i1_water, .int i1_pricked, .int i1_thinSpots, .int i1_seconds, .int i1_gone, .int i1_splitAt, .int i1_steam])), (i1A_degrees, .inl (g.2.1 0, 4, .inl i1_degrees)), (i1A_brown, .inl (g.2.1 0, 4, .inl i1_brown))]) [1, 2, 3, 6, 7, 8] [0, 4, 5, 9, 10, 11] [0, 6, 7, 8, 1, 2, 9, 10, 11, 3, 4, 5] 1 1 ⟨hx, hb, hml, hown, hts⟩ hK hX hP hD hS hA (m_X1_take l g mA mA_degrees mA_brown i0A i0A_degrees i0A_brown m_down m_core m_water m_pricked m_thinSpots m_seconds m_gone m_splitAt m_steam m_degrees m_brown i0_down i0_core i0_water i0_pricked i0_thinSpots i0_seconds i0_gone i0_splitAt i0_steam i0_degrees i0_brown) (cwV 1 hts (x_gV kw_855 kw_856 kw_857 kw_25 kw_858) rfl rfl rfl vX1_take ⟨Nat.le_of_ble_eq_true rfl, Nat.le_of_ble_eq_true rfl⟩) rfl rfl rfl rfl rfl rfl rfl (by decide) (fun _ => rfl) rfl rfl hl.1 rfl (Nat.le_of_ble_eq_true rfl) dX4_back_33 ⟨Nat.zero_le _, Nat.zero_le _⟩ (fun u H locs hw_21 hP hD hS => ?_)
        obtain ⟨m_down_10, m_core_11, m_water_12, m_pricked_13, m_thinSpots_14, m_seconds_15, m_gone_16, m_splitAt_17, m_steam_18, m_degrees_19, m_brown_20⟩ := u
        have hP : va_P g.1 vwCl [(tA, .inr (4, [.ref rA, .ref dA, .ref cA, .ref eA, .ref mA, .ref jA, .ref tA_images, .ref tA_kept, .ref tA_heats, .ref tA_salts, .ref tA_crumbsOf, .int (nI t_tests), .long t_traced, .int t_dryWeight])), (mA, .inr (1, [.int m_down_10, .ref mA_degrees, .ref mA_brown, .int m_core_11, .int m_water_12, .int m_pricked_13, .int m_thinSpots_14, .int m_seconds_15, .int m_gone_16, .int m_splitAt_17, .int m_steam_18])), (mA_degrees, .inl (g.2.1 0, 4, .inl m_degrees_19)), (mA_brown, .inl (g.2.1 0, 4, .inl m_brown_20)), (tA_images, .inl (g.2.1 3, 2, .inr (.inr (.inr (.inr t_images))))), (tA_kept, .inl (g.2.1 1, 2, .inl t_kept)), (i0A, .inr (1, [.int i0_down, .ref i0A_degrees, .ref i0A_brown, .int i0_core, .int i0_water, .int i0_pricked, .int i0_thinSpots, .int i0_seconds, .int i0_gone, .int i0_splitAt, .int i0_steam])), (i0A_degrees, .inl (g.2.1 0, 4, .inl i0_degrees)), (i0A_brown, .inl (g.2.1 0, 4, .inl i0_brown)), (i1A, .inr (1, [.int i1_down, .ref i1A_degrees, .ref i1A_brown, .int i1_core, .int i1_water, .int i1_pricked, .int i1_thinSpots, .int i1_seconds, .int i1_gone, .int i1_splitAt, .int i1_steam])), (i1A_degrees, .inl (g.2.1 0, 4, .inl i1_degrees)), (i1A_brown, .inl (g.2.1 0, 4, .inl i1_brown))] H := hP
        have hD : va_D A [(tA, .inr (4, [.ref rA, .ref dA, .ref cA, .ref eA, .ref mA, .ref jA, .ref tA_images, .ref tA_kept, .ref tA_heats, .ref tA_salts, .ref tA_crumbsOf, .int (nI t_tests), .long t_traced, .int t_dryWeight])), (mA, .inr (1, [.int m_down_10, .ref mA_degrees, .ref mA_brown, .int m_core_11, .int m_water_12, .int m_pricked_13, .int m_thinSpots_14, .int m_seconds_15, .int m_gone_16, .int m_splitAt_17, .int m_steam_18])), (mA_degrees, .inl (g.2.1 0, 4, .inl m_degrees_19)), (mA_brown, .inl (g.2.1 0, 4, .inl m_brown_20)), (tA_images, .inl (g.2.1 3, 2, .inr (.inr (.inr (.inr t_images))))), (tA_kept, .inl (g.2.1 1, 2, .inl t_kept)), (i0A, .inr (1, [.int i0_down, .ref i0A_degrees, .ref i0A_brown, .int i0_core, .int i0_water, .int i0_pricked, .int i0_thinSpots, .int i0_seconds, .int i0_gone, .int i0_splitAt, .int i0_steam])), (i0A_degrees, .inl (g.2.1 0, 4, .inl i0_degrees)), (i0A_brown, .inl (g.2.1 0, 4, .inl i0_brown)), (i1A, .inr (1, [.int i1_down, .ref i1A_degrees, .ref i1A_brown, .int i1_core, .int i1_water, .int i1_pricked, .int i1_thinSpots, .int i1_seconds, .int i1_gone, .int i1_splitAt, .int i1_steam])), (i1A_degrees, .inl (g.2.1 0, 4, .inl i1_degrees)), (i1A_brown, .inl (g.2.1 0, 4, .inl i1_brown))] := hD
        have E := x_nm_eq E hw_21
        refine lv_aload_n hx hb dX4_back_36 rfl (lv_at hl 0 rfl) ?_
        refine va_get (ci := 4) (v := .ref mA) (C := RX4) (T := TX4) (N := 14) hx hb hts inlX4 hown hK.1 hP 0 rfl rfl 4 (by decide) (hts _ kw_26) (fun _ h9 => h9) rfl dX4_back_37 ?_
        refine va_get (ci := 1) (v := .int m_seconds_15) (C := RX1) (T := TX1) (N := 11) hx hb hts inlX1 hown hK.1 hP 1 rfl rfl 7 (by decide) (hts _ kw_535) (fun _ h9 => h9) rfl dX4_back_40 ?_
        exact RET m_seconds_15 (m_down_10, m_core_11, m_water_12, m_pricked_13, m_thinSpots_14, m_seconds_15, m_gone_16, m_splitAt_17, m_steam_18, m_degrees_19, m_brown_20) H locs _ _ (E.symm.trans hO) rfl hP hD hS dX4_back_43
      · have E := x_neg E c_9
        refine x_aald hx hb hK hP 4 j_7 rfl (by omega) (by decide) (z := i1A) (by rw [show j_7 = 1 by omega]; exact h_1) dX4_back_32 ?_
        refine x_callVv (w2 := fun u => [(tA, .inr (4, [.ref rA, .ref dA, .ref cA, .ref eA, .ref mA, .ref jA, .ref tA_images, .ref tA_kept, .ref tA_heats, .ref tA_salts, .ref tA_crumbsOf, .int (nI t_tests), .long t_traced, .int t_dryWeight])), (mA, .inr (1, [.int u.1, .ref mA_degrees, .ref mA_brown, .int u.2.1, .int u.2.2.1, .int u.2.2.2.1, .int u.2.2.2.2.1, .int u.2.2.2.2.2.1, .int u.2.2.2.2.2.2.1, .int u.2.2.2.2.2.2.2.1, .int u.2.2.2.2.2.2.2.2.1])), (mA_degrees, .inl (g.2.1 0, 4, .inl u.2.2.2.2.2.2.2.2.2.1)), (mA_brown, .inl (g.2.1 0, 4, .inl u.2.2.2.2.2.2.2.2.2.2)), (tA_images, .inl (g.2.1 3, 2, .inr (.inr (.inr (.inr t_images))))), (tA_kept, .inl (g.2.1 1, 2, .inl t_kept)), (i0A, .inr (1, [.int i0_down, .ref i0A_degrees, .ref i0A_brown, .int i0_core, .int i0_water, .int i0_pricked, .int i0_thinSpots, .int i0_seconds, .int i0_gone, .int i0_splitAt, .int i0_steam])), (i0A_degrees, .inl (g.2.1 0, 4, .inl i0_degrees)), (i0A_brown, .inl (g.2.1 0, 4, .inl i0_brown)), (i1A, .inr (1, [.int i1_down, .ref i1A_degrees, .ref i1A_brown, .int i1_core, .int i1_water, .int i1_pricked, .int i1_thinSpots, .int i1_seconds, .int i1_gone, .int i1_splitAt, .int i1_steam])), (i1A_degrees, .inl (g.2.1 0, 4, .inl i1_degrees)), (i1A_brown, .inl (g.2.1 0, 4, .inl i1_brown))]) (wr := [(tA, .inr (4, [.ref rA, .ref dA, .ref cA, .ref eA, .ref mA, .ref jA, .ref tA_images, .ref tA_kept, .ref tA_heats, .ref tA_salts, .ref tA_crumbsOf, .int (nI t_tests), .long t_traced, .int t_dryWeight])), (tA_images, .inl (g.2.1 3, 2, .inr (.inr (.inr (.inr t_images))))), (tA_kept, .inl (g.2.1 1, 2, .inl t_kept)), (i0A, .inr (1, [.int i0_down, .ref i0A_degrees, .ref i0A_brown, .int i0_core, .int i0_water, .int i0_pricked, .int i0_thinSpots, .int i0_seconds, .int i0_gone, .int i0_splitAt, .int i0_steam])), (i0A_degrees, .inl (g.2.1 0, 4, .inl i0_degrees)), (i0A_brown, .inl (g.2.1 0, 4, .inl i0_brown))]) [1, 2, 3, 9, 10, 11] [0, 4, 5, 6, 7, 8] [0, 6, 7, 8, 1, 2, 3, 4, 5, 9, 10, 11] 1 1 ⟨hx, hb, hml, hown, hts⟩ hK hX hP hD hS hA (m_X1_take l g mA mA_degrees mA_brown i1A i1A_degrees i1A_brown m_down m_core m_water m_pricked m_thinSpots m_seconds m_gone m_splitAt m_steam m_degrees m_brown i1_down i1_core i1_water i1_pricked i1_thinSpots i1_seconds i1_gone i1_splitAt i1_steam i1_degrees i1_brown) (cwV 1 hts (x_gV kw_855 kw_856 kw_857 kw_25 kw_858) rfl rfl rfl vX1_take ⟨Nat.le_of_ble_eq_true rfl, Nat.le_of_ble_eq_true rfl⟩) rfl rfl rfl rfl rfl rfl rfl (by decide) (fun _ => rfl) rfl rfl hl.1 rfl (Nat.le_of_ble_eq_true rfl) dX4_back_33 ⟨Nat.zero_le _, Nat.zero_le _⟩ (fun u H locs hw_34 hP hD hS => ?_)
        obtain ⟨m_down_23, m_core_24, m_water_25, m_pricked_26, m_thinSpots_27, m_seconds_28, m_gone_29, m_splitAt_30, m_steam_31, m_degrees_32, m_brown_33⟩ := u
        have hP : va_P g.1 vwCl [(tA, .inr (4, [.ref rA, .ref dA, .ref cA, .ref eA, .ref mA, .ref jA, .ref tA_images, .ref tA_kept, .ref tA_heats, .ref tA_salts, .ref tA_crumbsOf, .int (nI t_tests), .long t_traced, .int t_dryWeight])), (mA, .inr (1, [.int m_down_23, .ref mA_degrees, .ref mA_brown, .int m_core_24, .int m_water_25, .int m_pricked_26, .int m_thinSpots_27, .int m_seconds_28, .int m_gone_29, .int m_splitAt_30, .int m_steam_31])), (mA_degrees, .inl (g.2.1 0, 4, .inl m_degrees_32)), (mA_brown, .inl (g.2.1 0, 4, .inl m_brown_33)), (tA_images, .inl (g.2.1 3, 2, .inr (.inr (.inr (.inr t_images))))), (tA_kept, .inl (g.2.1 1, 2, .inl t_kept)), (i0A, .inr (1, [.int i0_down, .ref i0A_degrees, .ref i0A_brown, .int i0_core, .int i0_water, .int i0_pricked, .int i0_thinSpots, .int i0_seconds, .int i0_gone, .int i0_splitAt, .int i0_steam])), (i0A_degrees, .inl (g.2.1 0, 4, .inl i0_degrees)), (i0A_brown, .inl (g.2.1 0, 4, .inl i0_brown)), (i1A, .inr (1, [.int i1_down, .ref i1A_degrees, .ref i1A_brown, .int i1_core, .int i1_water, .int i1_pricked, .int i1_thinSpots, .int i1_seconds, .int i1_gone, .int i1_splitAt, .int i1_steam])), (i1A_degrees, .inl (g.2.1 0, 4, .inl i1_degrees)), (i1A_brown, .inl (g.2.1 0, 4, .inl i1_brown))] H := hP
        have hD : va_D A [(tA, .inr (4, [.ref rA, .ref dA, .ref cA, .ref eA, .ref mA, .ref jA, .ref tA_images, .ref tA_kept, .ref tA_heats, .ref tA_salts, .ref tA_crumbsOf, .int (nI t_tests), .long t_traced, .int t_dryWeight])), (mA, .inr (1, [.int m_down_23, .ref mA_degrees, .ref mA_brown, .int m_core_24, .int m_water_25, .int m_pricked_26, .int m_thinSpots_27, .int m_seconds_28, .int m_gone_29, .int m_splitAt_30, .int m_steam_31])), (mA_degrees, .inl (g.2.1 0, 4, .inl m_degrees_32)), (mA_brown, .inl (g.2.1 0, 4, .inl m_brown_33)), (tA_images, .inl (g.2.1 3, 2, .inr (.inr (.inr (.inr t_images))))), (tA_kept, .inl (g.2.1 1, 2, .inl t_kept)), (i0A, .inr (1, [.int i0_down, .ref i0A_degrees, .ref i0A_brown, .int i0_core, .int i0_water, .int i0_pricked, .int i0_thinSpots, .int i0_seconds, .int i0_gone, .int i0_splitAt, .int i0_steam])), (i0A_degrees, .inl (g.2.1 0, 4, .inl i0_degrees)), (i0A_brown, .inl (g.2.1 0, 4, .inl i0_brown)), (i1A, .inr (1, [.int i1_down, .ref i1A_degrees, .ref i1A_brown, .int i1_core, .int i1_water, .int i1_pricked, .int i1_thinSpots, .int i1_seconds, .int i1_gone, .int i1_splitAt, .int i1_steam])), (i1A_degrees, .inl (g.2.1 0, 4, .inl i1_degrees)), (i1A_brown, .inl (g.2.1 0, 4, .inl i1_brown))] := hD
        have E := x_nm_eq E hw_34
        refine lv_aload_n hx hb dX4_back_36 rfl (lv_at hl 0 rfl) ?_
        refine va_get (ci := 4) (v := .ref mA) (C := RX4) (T := TX4) (N := 14) hx hb hts inlX4 hown hK.1 hP 0 rfl rfl 4 (by decide) (hts _ kw_26) (fun _ h9 => h9) rfl dX4_back_37 ?_
        refine va_get (ci := 1) (v := .int m_seconds_28) (C := RX1) (T := TX1) (N := 11) hx hb hts inlX1 hown hK.1 hP 1 rfl rfl 7 (by decide) (hts _ kw_535) (fun _ h9 => h9) rfl dX4_back_40 ?_
        exact RET m_seconds_28 (m_down_23, m_core_24, m_water_25, m_pricked_26, m_thinSpots_27, m_seconds_28, m_gone_29, m_splitAt_30, m_steam_31, m_degrees_32, m_brown_33) H locs _ _ (E.symm.trans hO) rfl hP hD hS dX4_back_43
    · have E := x_pos E c_8
      refine lv_bipush (v := (-2)) hx hb dX4_back_20 (by decide) ?_
      exact RET (-2) (m_down, m_core, m_water, m_pricked, m_thinSpots, m_seconds, m_gone, m_splitAt, m_steam, m_degrees, m_brown) H locs _ _ (E.symm.trans hO) rfl hP hD hS dX4_back_22
  · have E := x_neg E c_5
    refine lv_iconst (v := (-1)) hx hb dX4_back_9 (by decide) ?_
    exact RET (-1) (m_down, m_core, m_water, m_pricked, m_thinSpots, m_seconds, m_gone, m_splitAt, m_steam, m_degrees, m_brown) H locs _ _ (E.symm.trans hO) rfl hP hD hS dX4_back_10
abbrev rX4_count : Room := { frames := 0, cells := 0, slots := 0, locals := 0 }
theorem vX4_count : yX4_count.cls = RX4 ∧ yX4_count.cls ≠ "java/lang/invoke/MethodHandle" ∧ yX4_count.cls ≠ "java/lang/invoke/VarHandle" ∧ (parseMethodDescriptor yX4_count.desc).map (fun d => d.parameters.length) = some 1 := by decide +kernel
abbrev wX4_count : List Cond := Cond.code yX4_count cX4_count 2 (some .int) :: wsL_law
def F_X4_count (t_tests : Nat) (r_doings : Nat) (e_length : Nat) (a1 : Int32) : Int32 :=
  if a1 = 0 then nI r_doings else if a1 = 1 then nI t_tests else if a1 = 2 then nI e_length else (-1)
set_option maxHeartbeats 4000000 in
set_option maxRecDepth 100000 in
theorem m_X4_count (l : Launch) (g : x_G) (tA rA eA dA cA mA jA tA_images tA_kept tA_heats tA_salts tA_crumbsOf rA_kinds rA_firsts rA_seconds eA_text eA_numbers : Nat) (t_tests : Nat) (t_traced : Int64) (t_dryWeight : Int32) (r_radius : Int32) (r_skin : Int32) (r_filling : Int32) (r_water : Int32) (r_ends : Int32) (r_thin : Int32) (r_chance : Int32) (r_bentFace : Int32) (r_bentBy : Int32) (r_doings : Nat) (e_length : Nat) (e_token : Int32) (e_place : Nat) (e_next : Nat) (e_value : Int32) (e_skinTold : Int32) (e_bentTold : Int32) (a1 : Int32) : x_MetI l yX4_count wX4_count rX4_count g [.ref tA, .int a1] [(tA, .inr (4, [.ref rA, .ref dA, .ref cA, .ref eA, .ref mA, .ref jA, .ref tA_images, .ref tA_kept, .ref tA_heats, .ref tA_salts, .ref tA_crumbsOf, .int (nI t_tests), .long t_traced, .int t_dryWeight])), (rA, .inr (3, [.int r_radius, .int r_skin, .int r_filling, .int r_water, .int r_ends, .int r_thin, .int r_chance, .int r_bentFace, .int r_bentBy, .int (nI r_doings), .ref rA_kinds, .ref rA_firsts, .ref rA_seconds])), (eA, .inr (2, [.ref eA_text, .int (nI e_length), .ref eA_numbers, .int e_token, .int (nI e_place), .int (nI e_next), .int e_value, .int e_skinTold, .int e_bentTold]))] (fun (r : Int32) (u : Unit) => r = F_X4_count t_tests r_doings e_length a1) (fun _ => [(tA, .inr (4, [.ref rA, .ref dA, .ref cA, .ref eA, .ref mA, .ref jA, .ref tA_images, .ref tA_kept, .ref tA_heats, .ref tA_salts, .ref tA_crumbsOf, .int (nI t_tests), .long t_traced, .int t_dryWeight])), (rA, .inr (3, [.int r_radius, .int r_skin, .int r_filling, .int r_water, .int r_ends, .int r_thin, .int r_chance, .int r_bentFace, .int r_bentBy, .int (nI r_doings), .ref rA_kinds, .ref rA_firsts, .ref rA_seconds])), (eA, .inr (2, [.ref eA_text, .int (nI e_length), .ref eA_numbers, .int e_token, .int (nI e_place), .int (nI e_next), .int e_value, .int e_skinTold, .int e_bentTold]))]) := by
  refine x_startI (cc := cX4_count) (maxL := 2) (by decide) rfl (Nat.le_of_ble_eq_true rfl) ?_
  intro p e s m args below meth c Q A ls H locs hx hb hml hown hts hK hX hP hD hS hA hl RET
  have hown : s.vm.findClass RX4 = some m.cls := hown
  have hl : lv_has ls 2 [(0, .ref tA), (1, .int a1)] := hl
  obtain ⟨o_0, hO⟩ : ∃ z, z = F_X4_count t_tests r_doings e_length a1 := ⟨_, rfl⟩
  have E := hO
  rw [F_X4_count.eq_1] at E
  refine lv_iload_n hx hb dX4_count_0 rfl (lv_at hl 1 rfl) ?_
  by_cases c_1 : a1 = 0
  · have E := x_pos E c_1
    refine lv_tableIn (off := 27) (tgt := 28) hx hb dX4_count_1 (by rw [c_1]; decide) (by rw [c_1]; decide) (by rw [c_1]; decide) (by decide) ?_
    refine lv_aload_n hx hb dX4_count_28 rfl (lv_at hl 0 rfl) ?_
    refine va_get (ci := 4) (v := .ref rA) (C := RX4) (T := TX4) (N := 14) hx hb hts inlX4 hown hK.1 hP 0 rfl rfl 0 (by decide) (hts _ kw_16) (fun _ h9 => h9) rfl dX4_count_29 ?_
    refine va_get (ci := 3) (v := .int (nI r_doings)) (C := RX3) (T := TX3) (N := 13) hx hb hts inlX3 hown hK.1 hP 1 rfl rfl 9 (by decide) (hts _ kw_350) (fun _ h9 => h9) rfl dX4_count_32 ?_
    exact RET (nI r_doings) () H locs _ _ (E.symm.trans hO) rfl hP hD hS dX4_count_35
  have E := x_neg E c_1
  by_cases c_2 : a1 = 1
  · have E := x_pos E c_2
    refine lv_tableIn (off := 35) (tgt := 36) hx hb dX4_count_1 (by rw [c_2]; decide) (by rw [c_2]; decide) (by rw [c_2]; decide) (by decide) ?_
    refine lv_aload_n hx hb dX4_count_36 rfl (lv_at hl 0 rfl) ?_
    refine va_get (ci := 4) (v := .int (nI t_tests)) (C := RX4) (T := TX4) (N := 14) hx hb hts inlX4 hown hK.1 hP 0 rfl rfl 11 (by decide) (hts _ kw_783) (fun _ h9 => h9) rfl dX4_count_37 ?_
    exact RET (nI t_tests) () H locs _ _ (E.symm.trans hO) rfl hP hD hS dX4_count_40
  have E := x_neg E c_2
  by_cases c_3 : a1 = 2
  · have E := x_pos E c_3
    refine lv_tableIn (off := 40) (tgt := 41) hx hb dX4_count_1 (by rw [c_3]; decide) (by rw [c_3]; decide) (by rw [c_3]; decide) (by decide) ?_
    refine lv_aload_n hx hb dX4_count_41 rfl (lv_at hl 0 rfl) ?_
    refine va_get (ci := 4) (v := .ref eA) (C := RX4) (T := TX4) (N := 14) hx hb hts inlX4 hown hK.1 hP 0 rfl rfl 3 (by decide) (hts _ kw_22) (fun _ h9 => h9) rfl dX4_count_42 ?_
    refine va_get (ci := 2) (v := .int (nI e_length)) (C := RX2) (T := TX2) (N := 9) hx hb hts inlX2 hown hK.1 hP 2 rfl rfl 1 (by decide) (hts _ kw_114) (fun _ h9 => h9) rfl dX4_count_45 ?_
    exact RET (nI e_length) () H locs _ _ (E.symm.trans hO) rfl hP hD hS dX4_count_48
  have E := x_neg E c_3
  refine lv_tableOut (tgt := 49) hx hb dX4_count_1 (x_out 3 (by decide) (fun k hk => by rcases (show k = 0 ∨ k = 1 ∨ k = 2 by omega) with rfl | rfl | rfl <;> assumption) (by decide)) (by decide) ?_
  refine lv_iconst (v := (-1)) hx hb dX4_count_49 (by decide) ?_
  exact RET (-1) () H locs _ _ (E.symm.trans hO) rfl hP hD hS dX4_count_50
abbrev rX4_trace : Room := { frames := 0, cells := 0, slots := 0, locals := 0 }
theorem vX4_trace : yX4_trace.cls = RX4 ∧ yX4_trace.cls ≠ "java/lang/invoke/MethodHandle" ∧ yX4_trace.cls ≠ "java/lang/invoke/VarHandle" ∧ (parseMethodDescriptor yX4_trace.desc).map (fun d => d.parameters.length) = some 0 := by decide +kernel
abbrev wX4_trace : List Cond := Cond.code yX4_trace cX4_trace 1 (some .long) :: wsL_law
def F_X4_trace (t_traced : Int64) : Int64 :=
  t_traced
set_option maxHeartbeats 4000000 in
set_option maxRecDepth 100000 in
theorem m_X4_trace (l : Launch) (g : x_G) (tA rA dA cA eA mA jA tA_images tA_kept tA_heats tA_salts tA_crumbsOf : Nat) (t_tests : Nat) (t_traced : Int64) (t_dryWeight : Int32) : x_MetL l yX4_trace wX4_trace rX4_trace g [.ref tA] [(tA, .inr (4, [.ref rA, .ref dA, .ref cA, .ref eA, .ref mA, .ref jA, .ref tA_images, .ref tA_kept, .ref tA_heats, .ref tA_salts, .ref tA_crumbsOf, .int (nI t_tests), .long t_traced, .int t_dryWeight]))] (fun (r : Int64) (u : Unit) => r = F_X4_trace t_traced) (fun _ => [(tA, .inr (4, [.ref rA, .ref dA, .ref cA, .ref eA, .ref mA, .ref jA, .ref tA_images, .ref tA_kept, .ref tA_heats, .ref tA_salts, .ref tA_crumbsOf, .int (nI t_tests), .long t_traced, .int t_dryWeight]))]) := by
  refine x_startL (cc := cX4_trace) (maxL := 1) (by decide) rfl (Nat.le_of_ble_eq_true rfl) ?_
  intro p e s m args below meth c Q A ls H locs hx hb hml hown hts hK hX hP hD hS hA hl RET
  have hown : s.vm.findClass RX4 = some m.cls := hown
  have hl : lv_has ls 1 [(0, .ref tA)] := hl
  obtain ⟨o_0, hO⟩ : ∃ z, z = F_X4_trace t_traced := ⟨_, rfl⟩
  have E := hO
  rw [F_X4_trace.eq_1] at E
  refine lv_aload_n hx hb dX4_trace_0 rfl (lv_at hl 0 rfl) ?_
  refine va_get (ci := 4) (v := .long t_traced) (C := RX4) (T := TX4) (N := 14) hx hb hts inlX4 hown hK.1 hP 0 rfl rfl 12 (by decide) (hts _ kw_815) (fun _ h9 => h9) rfl dX4_trace_1 ?_
  exact RET t_traced () H locs _ _ (E.symm.trans hO) hP hD hS dX4_trace_4
