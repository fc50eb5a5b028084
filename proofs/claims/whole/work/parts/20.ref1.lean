abbrev rX5_in : Room := { frames := 0, cells := 0, slots := 0, locals := 0 }
theorem vX5_inS : yX5_in.cls ≠ "java/lang/invoke/MethodHandle" ∧ yX5_in.cls ≠ "java/lang/invoke/VarHandle" ∧ (parseMethodDescriptor yX5_in.desc).map (fun d => d.parameters.length) = some 3 := by decide +kernel
abbrev wX5_in : List Cond := Cond.code yX5_in cX5_in 6 (some .boolean) :: wsL_law
def F_X5_in (a1 : Int64) (a2 : Int64) (a3 : Int64) : Int32 :=
  x_nm (α := Int32) (if (lg_cmp a1 a2) < 0 then 0 else if 0 < (lg_cmp a1 a3) then 0 else 1) fun u_2 => u_2
set_option maxHeartbeats 4000000 in
set_option maxRecDepth 100000 in
theorem m_X5_in (l : Launch) (g : x_G) (a1 : Int64) (a2 : Int64) (a3 : Int64) : x_MetI l yX5_in wX5_in rX5_in g [.long a1, .long a2, .long a3] [] (fun (r : Int32) (u : Unit) => (r = F_X5_in a1 a2 a3) ∧ (r = 0 ∨ r = 1)) (fun _ => []) := by
  refine x_startI (cc := cX5_in) (maxL := 6) (by decide) rfl (Nat.le_of_ble_eq_true rfl) ?_
  intro p e s m args below meth c Q A ls H locs hx hb hml hown hts hK hX hP hD hS hA hl RET
  have hown : s.vm.findClass RX5 = some m.cls := hown
  have hl : lv_has ls 6 [(0, .long a1), (2, .long a2), (4, .long a3)] := hl
  obtain ⟨o_0, hO⟩ : ∃ z, z = F_X5_in a1 a2 a3 := ⟨_, rfl⟩
  have E := hO
  rw [F_X5_in.eq_1] at E
  refine lv_lload_n hx hb dX5_in_0 rfl (lv_at hl 0 rfl) ?_
  refine lv_lload_n hx hb dX5_in_1 rfl (lv_at hl 1 rfl) ?_
  refine W.lcmp hx hb dX5_in_2 ?_
  obtain ⟨o_2, E_2, E⟩ := x_nm_ex E
  have J_2 : ∀ (v_1 : Int32), o_2 = v_1 → (v_1 = 0 ∨ v_1 = 1) → ∀ (H : Heap) (locs : List Loc) (ls : Array Slot), va_P g.1 vwCl [] H → va_D A [] → va_S A s.heap H locs → lv_has ls 6 [] → W p l e rX5_in s m args below meth c H locs 0 0 Q (F0 m 18 ls [.int v_1]) := by
    intro v_1 hE f_2_0 H locs ls hP hD hS hl
    try rw [hE] at E
    exact RET v_1 () H locs _ _ (⟨E.symm.trans hO, (by assumption)⟩) (x_nar (by assumption)) hP hD hS dX5_in_18
  have E := E_2
  refine lv_if_lt (tgt := 17) hx hb dX5_in_3 (by decide) (fun c_3 => ?_) (fun c_3 => ?_)
  · have E := x_pos E c_3
    refine lv_iconst (v := 0) hx hb dX5_in_17 (by decide) ?_
    exact J_2 0 E (Or.inl rfl) H locs ls hP hD hS (lv_sub hl [] rfl)
  · have E := x_neg E c_3
    refine lv_lload_n hx hb dX5_in_6 rfl (lv_at hl 0 rfl) ?_
    refine lv_lload hx hb dX5_in_7 (lv_at hl 2 rfl) ?_
    refine W.lcmp hx hb dX5_in_9 ?_
    refine lv_if_gt (tgt := 17) hx hb dX5_in_10 (by decide) (fun c_4 => ?_) (fun c_4 => ?_)
    · have E := x_pos E c_4
      refine lv_iconst (v := 0) hx hb dX5_in_17 (by decide) ?_
      exact J_2 0 E (Or.inl rfl) H locs ls hP hD hS (lv_sub hl [] rfl)
    · have E := x_neg E c_4
      refine lv_iconst (v := 1) hx hb dX5_in_13 (by decide) ?_
      refine lv_goto (tgt := 18) hx hb dX5_in_14 (by decide) ?_
      exact J_2 1 E (Or.inr rfl) H locs ls hP hD hS (lv_sub hl [] rfl)
theorem x_in_iff (a lo hi : Int32) : (¬ F_X5_in a.toInt64 lo.toInt64 hi.toInt64 = 0) ↔ lo ≤ a ∧ a ≤ hi := by
  have e1 : lg_cmp a.toInt64 lo.toInt64 < 0 ↔ a < lo := by
    rw [show a < lo ↔ a.toInt64 < lo.toInt64 from by rw [Int32.lt_iff_toInt_lt, Int64.lt_iff_toInt_lt, Int32.toInt_toInt64, Int32.toInt_toInt64]]
    have := lg_cmp_ge a.toInt64 lo.toInt64
    constructor
    · intro h
      by_cases q : lo.toInt64 ≤ a.toInt64
      · exact absurd (this.mpr q) (Int32.not_le.mpr h)
      · exact Int64.not_le.mp q
    · intro h
      by_cases q : 0 ≤ lg_cmp a.toInt64 lo.toInt64
      · exact absurd (this.mp q) (Int64.not_le.mpr h)
      · exact Int32.not_le.mp q
  have e2 : 0 < lg_cmp a.toInt64 hi.toInt64 ↔ hi < a := by
    rw [show hi < a ↔ hi.toInt64 < a.toInt64 from by rw [Int32.lt_iff_toInt_lt, Int64.lt_iff_toInt_lt, Int32.toInt_toInt64, Int32.toInt_toInt64]]
    unfold lg_cmp
    constructor
    · intro h
      split at h
      · next q => exact q
      · split at h
        · exact absurd h (by decide)
        · exact absurd h (by decide)
    · intro h
      rw [if_pos h]
      decide
  simp only [F_X5_in, x_nm]
  by_cases h1 : a < lo
  · rw [if_pos (e1.mpr h1)]
    exact ⟨fun h => absurd rfl h, fun h => absurd h1 (Int32.not_lt.mpr h.1)⟩
  · rw [if_neg (fun q => h1 (e1.mp q))]
    by_cases h2 : hi < a
    · rw [if_pos (e2.mpr h2)]; exact ⟨fun h => absurd rfl h, fun h => absurd h2 (Int32.not_lt.mpr h.2)⟩
    · rw [if_neg (fun q => h2 (e2.mp q))]; exact ⟨fun _ => ⟨Int32.not_lt.mp h1, Int32.not_lt.mp h2⟩, fun _ => by decide⟩
theorem x_ins {a : Int32} {lo hi : Nat} (hlo : lo < 2 ^ 31) (hhi : hi < 2 ^ 31) (h : ¬ F_X5_in a.toInt64 (nI lo).toInt64 (nI hi).toInt64 = 0) : lo ≤ a.toNatClampNeg ∧ a.toNatClampNeg ≤ hi ∧ a = nI a.toNatClampNeg := by
  obtain ⟨h1, h2⟩ := (x_in_iff _ _ _).mp h
  exact x_outs hlo hhi ((x_outside_iff _ _ _).mpr ⟨h1, h2⟩)
theorem x_insN {t lo hi : Nat} (ht : t < 2 ^ 31) (hlo : lo < 2 ^ 31) (hhi : hi < 2 ^ 31) (h : ¬ F_X5_in (nI t).toInt64 (nI lo).toInt64 (nI hi).toInt64 = 0) : lo ≤ t ∧ t ≤ hi := by
  obtain ⟨h1, h2⟩ := (x_in_iff _ _ _).mp h
  exact x_outsN ht hlo hhi ((x_outside_iff _ _ _).mpr ⟨h1, h2⟩)
theorem x_insM {a : Int32} {d : Nat} (hd : d < 2 ^ 31) (h : ¬ F_X5_in a.toInt64 0 (nI d - 1).toInt64 = 0) : 0 ≤ a.toNatClampNeg ∧ a.toNatClampNeg < d ∧ a = nI a.toNatClampNeg := by
  obtain ⟨h1, h2⟩ := (x_in_iff a 0 (nI d - 1)).mp h
  exact x_outsM hd ((x_outside_iff _ _ _).mpr ⟨h1, h2⟩)
abbrev rX5_type : Room := { frames := 1, cells := 0, slots := 0, locals := 25 }
theorem vX5_type : yX5_type.cls = RX5 ∧ yX5_type.cls ≠ "java/lang/invoke/MethodHandle" ∧ yX5_type.cls ≠ "java/lang/invoke/VarHandle" ∧ (parseMethodDescriptor yX5_type.desc).map (fun d => d.parameters.length) = some 2 := by decide +kernel
abbrev wX5_type : List Cond := Cond.code yX5_type cX5_type 5 (some .int) :: wsL_law
def F_X5_type_L34 (a1 : Int64) : Nat → Nat → Nat → (Nat → Int32) → Nat × (Nat → Int32)
  | 0, m4_12, t_length_13, t_text_14 => (t_length_13, t_text_14)
  | n_15 + 1, m4_12, t_length_13, t_text_14 => if m4_12 = 0 then (t_length_13, t_text_14) else x_nm (upd t_text_14 t_length_13 (((a1 >>> ((nI (8 * (m4_12 - 1))).toInt64 &&& 63)).toInt32).toInt8.toInt32)) fun t_text_17 => F_X5_type_L34 a1 n_15 (m4_12 - 1) (t_length_13 + 1) t_text_17
def F_X5_type (t_length : Nat) (t_text : Nat → Int32) (a1 : Int64) (a2 : Int32) : Int32 × Nat × (Nat → Int32) :=
  x_nm (F_X5_in a2.toInt64 1 8) fun z_1 => if z_1 = 0 then ((-1), t_length, t_text) else x_nm (a2.toNatClampNeg) fun j_7 => if (t_length + j_7) ≤ 300 then x_nm (α := Nat × (Nat → Int32)) (F_X5_type_L34 a1 9 ((j_7 - 1) + 1) t_length t_text) fun u_11 => (nI u_11.1, u_11.1, u_11.2) else ((-3), t_length, t_text)
set_option maxHeartbeats 4000000 in
set_option maxRecDepth 100000 in
theorem m_X5_type (l : Launch) (g : x_G) (tA tA_text tA_is tA_doings tA_doing tA_row tA_isKept tA_best tA_heats tA_orders tA_has tA_salt tA_crumbs : Nat) (t_length : Nat) (t_at : Nat) (t_begin : Nat) (t_told : Int32) (t_items : Int32) (t_when : Int32) (t_most : Int32) (t_mostAt : Int32) (t_hiss : Int32) (t_tests : Nat) (t_traced : Int64) (t_hasSkin : Int32) (t_hasBend : Int32) (t_text : Nat → Int32) (a1 : Int64) (a2 : Int32) (h_0 : t_length ≤ 300) : x_MetI l yX5_type wX5_type rX5_type g [.ref tA, .long a1, .int a2] [(tA, .inr (5, [.int (nI t_length), .ref tA_text, .int (nI t_at), .int (nI t_begin), .int t_told, .ref tA_is, .ref tA_doings, .ref tA_doing, .int t_items, .ref tA_row, .ref tA_isKept, .int t_when, .int t_most, .int t_mostAt, .int t_hiss, .ref tA_best, .ref tA_heats, .ref tA_orders, .ref tA_has, .int (nI t_tests), .ref tA_salt, .ref tA_crumbs, .long t_traced, .int t_hasSkin, .int t_hasBend])), (tA_text, .inl (g.2.1 2, 300, .inl t_text))] (fun (r : Int32) (u : Nat × (Nat → Int32)) => ((r, u) = F_X5_type t_length t_text a1 a2) ∧ (u.1 ≤ 300)) (fun u => [(tA, .inr (5, [.int (nI u.1), .ref tA_text, .int (nI t_at), .int (nI t_begin), .int t_told, .ref tA_is, .ref tA_doings, .ref tA_doing, .int t_items, .ref tA_row, .ref tA_isKept, .int t_when, .int t_most, .int t_mostAt, .int t_hiss, .ref tA_best, .ref tA_heats, .ref tA_orders, .ref tA_has, .int (nI t_tests), .ref tA_salt, .ref tA_crumbs, .long t_traced, .int t_hasSkin, .int t_hasBend])), (tA_text, .inl (g.2.1 2, 300, .inl u.2))]) := by
  refine x_startI (cc := cX5_type) (maxL := 5) (by decide) rfl (Nat.le_of_ble_eq_true rfl) ?_
  intro p e s m args below meth c Q A ls H locs hx hb hml hown hts hK hX hP hD hS hA hl RET
  have hown : s.vm.findClass RX5 = some m.cls := hown
  have hl : lv_has ls 5 [(0, .ref tA), (1, .long a1), (3, .int a2)] := hl
  obtain ⟨o_0, hO⟩ : ∃ z, z = F_X5_type t_length t_text a1 a2 := ⟨_, rfl⟩
  have E := hO
  rw [F_X5_type.eq_1] at E
  refine lv_iload_n hx hb dX5_type_0 rfl (lv_at hl 2 rfl) ?_
  refine lv_i2l (v := a2.toInt64) hx hb dX5_type_1 rfl ?_
  refine lv_lconst (v := 1) hx hb dX5_type_2 (by decide) ?_
  refine lv_ldc2 (v := 8) hx hb hown (hts _ kw_127) dX5_type_3 ?_
  refine x_callS0 ⟨hx, hb, hml, hown, hts⟩ hK hX hP hD hS hA (m_X5_in l g a2.toInt64 1 8) (va_cwS 3 hts (x_gS kw_129 kw_130 kw_5 kw_131) rfl rfl rfl vX5_inS ⟨Nat.le_of_ble_eq_true rfl, Nat.le_of_ble_eq_true rfl⟩) rfl hl.1 rfl (Nat.le_of_ble_eq_true rfl) dX5_type_6 ⟨Nat.zero_le _, Nat.zero_le _⟩ (fun z_1 _ H locs hw_2 hP hD hS => ?_)
  obtain ⟨hw_2, b_3⟩ := hw_2
  have E := x_nm_eq E hw_2
  refine x_if_neI (tgt := 14) hx hb dX5_type_9 (by decide) (fun c_5 => ?_) (fun c_5 => ?_)
  · have E := x_neg E c_5
    obtain ⟨j_7, hj⟩ : ∃ z, z = (a2).toNatClampNeg := ⟨_, rfl⟩
    have r_6_0 := (x_ins (lo := 1) (hi := 8) (by omega) (by omega) (fun q => c_5 (hw_2.trans q)))
    rw [← hj] at r_6_0
    obtain ⟨r_6_0_a, r_6_0_b, e_6_0⟩ := r_6_0
    have E := x_nm_eq E hj
    have hl : lv_has ls 5 [(0, .ref tA), (1, .long a1), (3, .int (nI j_7))] := by rw [e_6_0] at hl; exact hl
    refine lv_aload_n hx hb dX5_type_14 rfl (lv_at hl 0 rfl) ?_
    refine va_get (ci := 5) (v := .int (nI t_length)) (C := RX5) (T := TX5) (N := 25) hx hb hts inlX5 hown hK.1 hP 0 rfl rfl 0 (by decide) (hts _ kw_128) (fun _ h9 => h9) rfl dX5_type_15 ?_
    refine lv_iload_n hx hb dX5_type_18 rfl (lv_at hl 2 rfl) ?_
    refine lv_iadd hx hb dX5_type_19 ?_
    refine x_eqi (nI_add t_length j_7) ?_
    refine lv_sipush (v := 300) hx hb dX5_type_20 (by decide) ?_
    refine x_icmp_le (a := (t_length + j_7)) (b := 300) (tgt := 29) hx hb (by omega) (by omega) dX5_type_23 (by decide) (fun c_8 => ?_) (fun c_8 => ?_)
    · have E := x_pos E c_8
      refine lv_iload_n hx hb dX5_type_29 rfl (lv_at hl 2 rfl) ?_
      refine lv_iconst (v := 1) hx hb dX5_type_30 (by decide) ?_
      refine lv_isub hx hb dX5_type_31 ?_
      refine x_eqi (pk_sub (a := j_7) (b := 1) (by omega)) ?_
      refine lv_istore (lv' := [(4, .int (nI (j_7 - 1))), (0, .ref tA), (1, .long a1), (3, .int (nI j_7))]) hx hb dX5_type_32 hl (by decide) rfl (fun ls hl => ?_)
      obtain ⟨o_11, E_11, E⟩ := x_nm_ex E
      have J_11 : ∀ (t_length_9 : Nat) (t_text_10 : Nat → Int32), o_11 = (t_length_9, t_text_10) → (t_length_9 ≤ 300) → ∀ (H : Heap) (locs : List Loc) (ls : Array Slot), va_P g.1 vwCl [(tA, .inr (5, [.int (nI t_length_9), .ref tA_text, .int (nI t_at), .int (nI t_begin), .int t_told, .ref tA_is, .ref tA_doings, .ref tA_doing, .int t_items, .ref tA_row, .ref tA_isKept, .int t_when, .int t_most, .int t_mostAt, .int t_hiss, .ref tA_best, .ref tA_heats, .ref tA_orders, .ref tA_has, .int (nI t_tests), .ref tA_salt, .ref tA_crumbs, .long t_traced, .int t_hasSkin, .int t_hasBend])), (tA_text, .inl (g.2.1 2, 300, .inl t_text_10))] H → va_D A [(tA, .inr (5, [.int (nI t_length_9), .ref tA_text, .int (nI t_at), .int (nI t_begin), .int t_told, .ref tA_is, .ref tA_doings, .ref tA_doing, .int t_items, .ref tA_row, .ref tA_isKept, .int t_when, .int t_most, .int t_mostAt, .int t_hiss, .ref tA_best, .ref tA_heats, .ref tA_orders, .ref tA_has, .int (nI t_tests), .ref tA_salt, .ref tA_crumbs, .long t_traced, .int t_hasSkin, .int t_hasBend])), (tA_text, .inl (g.2.1 2, 300, .inl t_text_10))] → va_S A s.heap H locs → lv_has ls 5 [(0, .ref tA)] → W p l e rX5_type s m args below meth c H locs 0 0 Q (F0 m 73 ls []) := by
        intro t_length_9 t_text_10 hE f_11_0 H locs ls hP hD hS hl
        try rw [hE] at E
        refine lv_aload_n hx hb dX5_type_73 rfl (lv_at hl 0 rfl) ?_
        refine va_get (ci := 5) (v := .int (nI t_length_9)) (C := RX5) (T := TX5) (N := 25) hx hb hts inlX5 hown hK.1 hP 0 rfl rfl 0 (by decide) (hts _ kw_128) (fun _ h9 => h9) rfl dX5_type_74 ?_
        exact RET (nI t_length_9) (t_length_9, t_text_10) H locs _ _ ⟨E.symm.trans hO, (show t_length_9 ≤ 300 by first | omega | assumption | exact Or.inl rfl | exact Or.inr (by omega))⟩ rfl hP hD hS dX5_type_77
      have E := E_11
      have L_15 : ∀ (n_15 : Nat) (m4_12 : Nat) (t_length_13 : Nat) (t_text_14 : Nat → Int32), (m4_12 ≤ 8) → (t_length_13 + m4_12 ≤ 300) → ((m4_12) < n_15) → o_11 = F_X5_type_L34 a1 n_15 m4_12 t_length_13 t_text_14 → ∀ (H : Heap) (locs : List Loc) (ls : Array Slot), va_P g.1 vwCl [(tA, .inr (5, [.int (nI t_length_13), .ref tA_text, .int (nI t_at), .int (nI t_begin), .int t_told, .ref tA_is, .ref tA_doings, .ref tA_doing, .int t_items, .ref tA_row, .ref tA_isKept, .int t_when, .int t_most, .int t_mostAt, .int t_hiss, .ref tA_best, .ref tA_heats, .ref tA_orders, .ref tA_has, .int (nI t_tests), .ref tA_salt, .ref tA_crumbs, .long t_traced, .int t_hasSkin, .int t_hasBend])), (tA_text, .inl (g.2.1 2, 300, .inl t_text_14))] H → va_D A [(tA, .inr (5, [.int (nI t_length_13), .ref tA_text, .int (nI t_at), .int (nI t_begin), .int t_told, .ref tA_is, .ref tA_doings, .ref tA_doing, .int t_items, .ref tA_row, .ref tA_isKept, .int t_when, .int t_most, .int t_mostAt, .int t_hiss, .ref tA_best, .ref tA_heats, .ref tA_orders, .ref tA_has, .int (nI t_tests), .ref tA_salt, .ref tA_crumbs, .long t_traced, .int t_hasSkin, .int t_hasBend])), (tA_text, .inl (g.2.1 2, 300, .inl t_text_14))] → va_S A s.heap H locs → lv_has ls 5 [(0, .ref tA), (1, .long a1), (4, .int ((nI m4_12) + (-1)))] → W p l e rX5_type s m args below meth c H locs 0 0 Q (F0 m 34 ls []) := by
        intro n_15
        induction n_15 with
        | zero => intro m4_12 t_length_13 t_text_14 i_15_0 i_15_1 i_15_2; exact absurd i_15_2 (by omega)
        | succ n_15 ih_15 =>
          intro m4_12 t_length_13 t_text_14 i_15_0 i_15_1 i_15_2 E H locs ls hP hD hS hl
          rw [F_X5_type_L34.eq_2] at E
          refine lv_iload hx hb dX5_type_34 (lv_at hl 2 rfl) ?_
          refine x_if_ltP (a := m4_12) (tgt := 73) hx hb (by omega) dX5_type_36 (by decide) (fun c_16 => ?_) (fun c_16 => ?_)
          · have E := x_pos E c_16
            exact J_11 t_length_13 t_text_14 E (by first | omega | assumption | rfl | exact Or.inl rfl | exact Or.inr (by omega)) H locs ls hP hD hS (lv_sub hl [0] rfl)
          · have E := x_neg E c_16
            have hl : lv_has ls 5 [(0, .ref tA), (1, .long a1), (4, .int (nI (m4_12 - 1)))] := by rw [x_pm1 c_16] at hl; exact hl
            refine lv_aload_n hx hb dX5_type_39 rfl (lv_at hl 0 rfl) ?_
            refine va_get (ci := 5) (v := .ref tA_text) (C := RX5) (T := TX5) (N := 25) hx hb hts inlX5 hown hK.1 hP 0 rfl rfl 1 (by decide) (hts _ kw_93) (fun _ h9 => h9) rfl dX5_type_40 ?_
            refine lv_aload_n hx hb dX5_type_43 rfl (lv_at hl 0 rfl) ?_
            refine va_get (ci := 5) (v := .int (nI t_length_13)) (C := RX5) (T := TX5) (N := 25) hx hb hts inlX5 hown hK.1 hP 0 rfl rfl 0 (by decide) (hts _ kw_128) (fun _ h9 => h9) rfl dX5_type_44 ?_
            refine lv_lload_n hx hb dX5_type_47 rfl (lv_at hl 1 rfl) ?_
            refine lv_bipush (v := 8) hx hb dX5_type_48 (by decide) ?_
            refine lv_iload hx hb dX5_type_50 (lv_at hl 2 rfl) ?_
            refine lv_imul hx hb dX5_type_52 ?_
            refine x_eqi (pk_mul 8 (m4_12 - 1)) ?_
            refine lv_lshr (v := a1 >>> ((nI (8 * (m4_12 - 1))).toInt64 &&& 63)) hx hb dX5_type_53 rfl ?_
            refine lv_l2i (v := (a1 >>> ((nI (8 * (m4_12 - 1))).toInt64 &&& 63)).toInt32) hx hb dX5_type_54 rfl ?_
            refine lv_i2b (v := ((a1 >>> ((nI (8 * (m4_12 - 1))).toInt64 &&& 63)).toInt32).toInt8.toInt32) hx hb dX5_type_55 rfl ?_
            refine x_bastN hx hb hK hP hD hS 1 t_length_13 rfl (by omega) (by decide) dX5_type_56 (pk_vb _) (fun t_text_17 H locs hf hP hD hS => ?_)
            have hP : va_P g.1 vwCl [(tA, .inr (5, [.int (nI t_length_13), .ref tA_text, .int (nI t_at), .int (nI t_begin), .int t_told, .ref tA_is, .ref tA_doings, .ref tA_doing, .int t_items, .ref tA_row, .ref tA_isKept, .int t_when, .int t_most, .int t_mostAt, .int t_hiss, .ref tA_best, .ref tA_heats, .ref tA_orders, .ref tA_has, .int (nI t_tests), .ref tA_salt, .ref tA_crumbs, .long t_traced, .int t_hasSkin, .int t_hasBend])), (tA_text, .inl (g.2.1 2, 300, .inl t_text_17))] H := hP
            have hD : va_D A [(tA, .inr (5, [.int (nI t_length_13), .ref tA_text, .int (nI t_at), .int (nI t_begin), .int t_told, .ref tA_is, .ref tA_doings, .ref tA_doing, .int t_items, .ref tA_row, .ref tA_isKept, .int t_when, .int t_most, .int t_mostAt, .int t_hiss, .ref tA_best, .ref tA_heats, .ref tA_orders, .ref tA_has, .int (nI t_tests), .ref tA_salt, .ref tA_crumbs, .long t_traced, .int t_hasSkin, .int t_hasBend])), (tA_text, .inl (g.2.1 2, 300, .inl t_text_17))] := hD
            have E := x_nm_eq E hf
            refine lv_aload_n hx hb dX5_type_57 rfl (lv_at hl 0 rfl) ?_
            refine lv_dup hx hb dX5_type_58 rfl ?_
            refine va_get (ci := 5) (v := .int (nI t_length_13)) (C := RX5) (T := TX5) (N := 25) hx hb hts inlX5 hown hK.1 hP 0 rfl rfl 0 (by decide) (hts _ kw_128) (fun _ h9 => h9) rfl dX5_type_59 ?_
            refine lv_iconst (v := 1) hx hb dX5_type_62 (by decide) ?_
            refine lv_iadd hx hb dX5_type_63 ?_
            refine x_eqi (nI_add t_length_13 1) ?_
            refine va_put (ci := 5) (v := .int (nI (t_length_13 + 1))) (ty := .int) (C := RX5) (T := TX5) (N := 25) hx hb hts inlX5 tyX5 tyX5_ok nmX5 hown hK.1 hP hD hS 0 rfl rfl 0 (by decide) (hts _ kw_128) (fun _ h9 => h9) rfl (tyX5_ok 0 (by decide)) rfl rfl (Nat.le_of_ble_eq_true rfl) dX5_type_64 (fun H locs hP hD hS => ?_)
            have hP : va_P g.1 vwCl [(tA, .inr (5, [.int (nI (t_length_13 + 1)), .ref tA_text, .int (nI t_at), .int (nI t_begin), .int t_told, .ref tA_is, .ref tA_doings, .ref tA_doing, .int t_items, .ref tA_row, .ref tA_isKept, .int t_when, .int t_most, .int t_mostAt, .int t_hiss, .ref tA_best, .ref tA_heats, .ref tA_orders, .ref tA_has, .int (nI t_tests), .ref tA_salt, .ref tA_crumbs, .long t_traced, .int t_hasSkin, .int t_hasBend])), (tA_text, .inl (g.2.1 2, 300, .inl t_text_17))] H := hP
            have hD : va_D A [(tA, .inr (5, [.int (nI (t_length_13 + 1)), .ref tA_text, .int (nI t_at), .int (nI t_begin), .int t_told, .ref tA_is, .ref tA_doings, .ref tA_doing, .int t_items, .ref tA_row, .ref tA_isKept, .int t_when, .int t_most, .int t_mostAt, .int t_hiss, .ref tA_best, .ref tA_heats, .ref tA_orders, .ref tA_has, .int (nI t_tests), .ref tA_salt, .ref tA_crumbs, .long t_traced, .int t_hasSkin, .int t_hasBend])), (tA_text, .inl (g.2.1 2, 300, .inl t_text_17))] := hD
            refine lv_iinc (v := (nI (m4_12 - 1)) + (-1)) (lv' := [(4, .int ((nI (m4_12 - 1)) + (-1))), (0, .ref tA), (1, .long a1)]) hx hb dX5_type_67 hl (k := 2) rfl rfl (by decide) rfl (fun ls hl => ?_)
            refine lv_goto (tgt := 34) hx hb dX5_type_70 (by decide) ?_
            exact ih_15 (m4_12 - 1) (t_length_13 + 1) t_text_17 (by first | omega | assumption | exact Eq.trans (by assumption) (by assumption)) (by first | omega | assumption | exact Eq.trans (by assumption) (by assumption)) (by omega) E H locs ls hP hD hS (lv_sub hl [1, 2, 0] rfl)
      have hl : lv_has ls 5 [(4, .int ((nI ((j_7 - 1) + 1)) + (-1))), (0, .ref tA), (1, .long a1), (3, .int (nI j_7))] := by rw [pk_m1]; exact hl
      exact L_15 9 ((j_7 - 1) + 1) t_length t_text (by first | omega | assumption | rfl) (by first | omega | assumption | rfl) (by omega) E H locs ls hP hD hS (lv_sub hl [1, 2, 0] rfl)
    · have E := x_neg E c_8
      refine lv_bipush (v := (-3)) hx hb dX5_type_26 (by decide) ?_
      exact RET (-3) (t_length, t_text) H locs _ _ ⟨E.symm.trans hO, (show t_length ≤ 300 by first | omega | assumption | exact Or.inl rfl | exact Or.inr (by omega))⟩ rfl hP hD hS dX5_type_28
  · have E := x_pos E c_5
    refine lv_iconst (v := (-1)) hx hb dX5_type_12 (by decide) ?_
    exact RET (-1) (t_length, t_text) H locs _ _ ⟨E.symm.trans hO, (show t_length ≤ 300 by first | omega | assumption | exact Or.inl rfl | exact Or.inr (by omega))⟩ rfl hP hD hS dX5_type_13
abbrev rX5_clear : Room := { frames := 0, cells := 0, slots := 0, locals := 0 }
theorem vX5_clear : yX5_clear.cls = RX5 ∧ yX5_clear.cls ≠ "java/lang/invoke/MethodHandle" ∧ yX5_clear.cls ≠ "java/lang/invoke/VarHandle" ∧ (parseMethodDescriptor yX5_clear.desc).map (fun d => d.parameters.length) = some 0 := by decide +kernel
abbrev wX5_clear : List Cond := Cond.code yX5_clear cX5_clear 2 (some .int) :: wsL_law
def F_X5_clear (t_length : Nat) : Int32 × Nat :=
  (nI t_length, 0)
set_option maxHeartbeats 4000000 in
set_option maxRecDepth 100000 in
theorem m_X5_clear (l : Launch) (g : x_G) (tA tA_text tA_is tA_doings tA_doing tA_row tA_isKept tA_best tA_heats tA_orders tA_has tA_salt tA_crumbs : Nat) (t_length : Nat) (t_at : Nat) (t_begin : Nat) (t_told : Int32) (t_items : Int32) (t_when : Int32) (t_most : Int32) (t_mostAt : Int32) (t_hiss : Int32) (t_tests : Nat) (t_traced : Int64) (t_hasSkin : Int32) (t_hasBend : Int32) : x_MetI l yX5_clear wX5_clear rX5_clear g [.ref tA] [(tA, .inr (5, [.int (nI t_length), .ref tA_text, .int (nI t_at), .int (nI t_begin), .int t_told, .ref tA_is, .ref tA_doings, .ref tA_doing, .int t_items, .ref tA_row, .ref tA_isKept, .int t_when, .int t_most, .int t_mostAt, .int t_hiss, .ref tA_best, .ref tA_heats, .ref tA_orders, .ref tA_has, .int (nI t_tests), .ref tA_salt, .ref tA_crumbs, .long t_traced, .int t_hasSkin, .int t_hasBend]))] (fun (r : Int32) (u : Nat) => (r, u) = F_X5_clear t_length) (fun u => [(tA, .inr (5, [.int (nI u), .ref tA_text, .int (nI t_at), .int (nI t_begin), .int t_told, .ref tA_is, .ref tA_doings, .ref tA_doing, .int t_items, .ref tA_row, .ref tA_isKept, .int t_when, .int t_most, .int t_mostAt, .int t_hiss, .ref tA_best, .ref tA_heats, .ref tA_orders, .ref tA_has, .int (nI t_tests), .ref tA_salt, .ref tA_crumbs, .long t_traced, .int t_hasSkin, .int t_hasBend]))]) := by
  refine x_startI (cc := cX5_clear) (maxL := 2) (by decide) rfl (Nat.le_of_ble_eq_true rfl) ?_
  intro p e s m args below meth c Q A ls H locs hx hb hml hown hts hK hX hP hD hS hA hl RET
  have hown : s.vm.findClass RX5 = some m.cls := hown
  have hl : lv_has ls 2 [(0, .ref tA)] := hl
  obtain ⟨o_0, hO⟩ : ∃ z, z = F_X5_clear t_length := ⟨_, rfl⟩
  have E := hO
  rw [F_X5_clear.eq_1] at E
  refine lv_aload_n hx hb dX5_clear_0 rfl (lv_at hl 0 rfl) ?_
  refine va_get (ci := 5) (v := .int (nI t_length)) (C := RX5) (T := TX5) (N := 25) hx hb hts inlX5 hown hK.1 hP 0 rfl rfl 0 (by decide) (hts _ kw_128) (fun _ h9 => h9) rfl dX5_clear_1 ?_
  refine lv_istore_n (lv' := [(1, .int (nI t_length)), (0, .ref tA)]) hx hb dX5_clear_4 rfl hl (by decide) rfl (fun ls hl => ?_)
  refine lv_aload_n hx hb dX5_clear_5 rfl (lv_at hl 1 rfl) ?_
  refine lv_iconst (v := 0) hx hb dX5_clear_6 (by decide) ?_
  refine va_put (ci := 5) (v := .int 0) (ty := .int) (C := RX5) (T := TX5) (N := 25) hx hb hts inlX5 tyX5 tyX5_ok nmX5 hown hK.1 hP hD hS 0 rfl rfl 0 (by decide) (hts _ kw_128) (fun _ h9 => h9) rfl (tyX5_ok 0 (by decide)) rfl rfl (Nat.le_of_ble_eq_true rfl) dX5_clear_7 (fun H locs hP hD hS => ?_)
  have hP : va_P g.1 vwCl [(tA, .inr (5, [.int 0, .ref tA_text, .int (nI t_at), .int (nI t_begin), .int t_told, .ref tA_is, .ref tA_doings, .ref tA_doing, .int t_items, .ref tA_row, .ref tA_isKept, .int t_when, .int t_most, .int t_mostAt, .int t_hiss, .ref tA_best, .ref tA_heats, .ref tA_orders, .ref tA_has, .int (nI t_tests), .ref tA_salt, .ref tA_crumbs, .long t_traced, .int t_hasSkin, .int t_hasBend]))] H := hP
  have hD : va_D A [(tA, .inr (5, [.int 0, .ref tA_text, .int (nI t_at), .int (nI t_begin), .int t_told, .ref tA_is, .ref tA_doings, .ref tA_doing, .int t_items, .ref tA_row, .ref tA_isKept, .int t_when, .int t_most, .int t_mostAt, .int t_hiss, .ref tA_best, .ref tA_heats, .ref tA_orders, .ref tA_has, .int (nI t_tests), .ref tA_salt, .ref tA_crumbs, .long t_traced, .int t_hasSkin, .int t_hasBend]))] := hD
  refine lv_iload_n hx hb dX5_clear_10 rfl (lv_at hl 0 rfl) ?_
  exact RET (nI t_length) 0 H locs _ _ (E.symm.trans hO) rfl hP hD hS dX5_clear_11
abbrev rX5_begins : Room := { frames := 0, cells := 0, slots := 0, locals := 0 }
theorem vX5_begins : yX5_begins.cls = RX5 ∧ yX5_begins.cls ≠ "java/lang/invoke/MethodHandle" ∧ yX5_begins.cls ≠ "java/lang/invoke/VarHandle" ∧ (parseMethodDescriptor yX5_begins.desc).map (fun d => d.parameters.length) = some 1 := by decide +kernel
abbrev wX5_begins : List Cond := Cond.code yX5_begins cX5_begins 3 none :: wsL_law
def F_X5_begins_L2 (a1 : Nat) : Nat → Nat → (Nat → Int32) → (Nat → Int32)
  | 0, k2_5, t_row_6 => t_row_6
  | n_7 + 1, k2_5, t_row_6 => if 20 ≤ k2_5 then t_row_6 else x_nm (α := Int32) (if 4 < k2_5 then 0 else 20) fun u_10 => x_nm (upd t_row_6 ((20 * a1) + k2_5) u_10) fun t_row_11 => F_X5_begins_L2 a1 n_7 (k2_5 + 1) t_row_11
def F_X5_begins (t_is : Nat → Int32) (t_row : Nat → Int32) (a1 : Nat) : (Nat → Int32) :=
  x_nm (α := (Nat → Int32)) (F_X5_begins_L2 a1 (20 + 1) 0 t_row) fun u_2 => x_nm (upd u_2 ((20 * a1) + 9) (t_is 3)) fun t_row_3 => x_nm (upd t_row_3 ((20 * a1) + 14) (-9)) fun t_row_4 => t_row_4
set_option maxHeartbeats 4000000 in
set_option maxRecDepth 100000 in
theorem m_X5_begins (l : Launch) (g : x_G) (tA tA_is tA_row tA_text tA_doings tA_doing tA_isKept tA_best tA_heats tA_orders tA_has tA_salt tA_crumbs : Nat) (t_length : Nat) (t_at : Nat) (t_begin : Nat) (t_told : Int32) (t_items : Int32) (t_when : Int32) (t_most : Int32) (t_mostAt : Int32) (t_hiss : Int32) (t_tests : Nat) (t_traced : Int64) (t_hasSkin : Int32) (t_hasBend : Int32) (t_is : Nat → Int32) (t_row : Nat → Int32) (a1 : Nat) (h_0 : a1 < 4) : x_MetV l yX5_begins wX5_begins rX5_begins g [.ref tA, .int (nI a1)] [(tA, .inr (5, [.int (nI t_length), .ref tA_text, .int (nI t_at), .int (nI t_begin), .int t_told, .ref tA_is, .ref tA_doings, .ref tA_doing, .int t_items, .ref tA_row, .ref tA_isKept, .int t_when, .int t_most, .int t_mostAt, .int t_hiss, .ref tA_best, .ref tA_heats, .ref tA_orders, .ref tA_has, .int (nI t_tests), .ref tA_salt, .ref tA_crumbs, .long t_traced, .int t_hasSkin, .int t_hasBend])), (tA_is, .inl (g.2.1 0, 18, .inl t_is)), (tA_row, .inl (g.2.1 0, 80, .inl t_row))] (fun u : (Nat → Int32) => u = F_X5_begins t_is t_row a1) (fun u => [(tA, .inr (5, [.int (nI t_length), .ref tA_text, .int (nI t_at), .int (nI t_begin), .int t_told, .ref tA_is, .ref tA_doings, .ref tA_doing, .int t_items, .ref tA_row, .ref tA_isKept, .int t_when, .int t_most, .int t_mostAt, .int t_hiss, .ref tA_best, .ref tA_heats, .ref tA_orders, .ref tA_has, .int (nI t_tests), .ref tA_salt, .ref tA_crumbs, .long t_traced, .int t_hasSkin, .int t_hasBend])), (tA_is, .inl (g.2.1 0, 18, .inl t_is)), (tA_row, .inl (g.2.1 0, 80, .inl u))]) := by
  refine x_startV (cc := cX5_begins) (maxL := 3) (by decide) rfl (Nat.le_of_ble_eq_true rfl) ?_
  intro p e s m args below meth c Q A ls H locs hx hb hml hown hts hK hX hP hD hS hA hl RET
  have hown : s.vm.findClass RX5 = some m.cls := hown
  have hl : lv_has ls 3 [(0, .ref tA), (1, .int (nI a1))] := hl
  obtain ⟨o_0, hO⟩ : ∃ z, z = F_X5_begins t_is t_row a1 := ⟨_, rfl⟩
  have E := hO
  rw [F_X5_begins.eq_1] at E
  refine lv_iconst (v := 0) hx hb dX5_begins_0 (by decide) ?_
  refine lv_istore_n (lv' := [(2, .int 0), (0, .ref tA), (1, .int (nI a1))]) hx hb dX5_begins_1 rfl hl (by decide) rfl (fun ls hl => ?_)
  obtain ⟨o_2, E_2, E⟩ := x_nm_ex E
  have J_2 : ∀ (t_row_1 : Nat → Int32), o_2 = t_row_1 → ∀ (H : Heap) (locs : List Loc) (ls : Array Slot), va_P g.1 vwCl [(tA, .inr (5, [.int (nI t_length), .ref tA_text, .int (nI t_at), .int (nI t_begin), .int t_told, .ref tA_is, .ref tA_doings, .ref tA_doing, .int t_items, .ref tA_row, .ref tA_isKept, .int t_when, .int t_most, .int t_mostAt, .int t_hiss, .ref tA_best, .ref tA_heats, .ref tA_orders, .ref tA_has, .int (nI t_tests), .ref tA_salt, .ref tA_crumbs, .long t_traced, .int t_hasSkin, .int t_hasBend])), (tA_is, .inl (g.2.1 0, 18, .inl t_is)), (tA_row, .inl (g.2.1 0, 80, .inl t_row_1))] H → va_D A [(tA, .inr (5, [.int (nI t_length), .ref tA_text, .int (nI t_at), .int (nI t_begin), .int t_told, .ref tA_is, .ref tA_doings, .ref tA_doing, .int t_items, .ref tA_row, .ref tA_isKept, .int t_when, .int t_most, .int t_mostAt, .int t_hiss, .ref tA_best, .ref tA_heats, .ref tA_orders, .ref tA_has, .int (nI t_tests), .ref tA_salt, .ref tA_crumbs, .long t_traced, .int t_hasSkin, .int t_hasBend])), (tA_is, .inl (g.2.1 0, 18, .inl t_is)), (tA_row, .inl (g.2.1 0, 80, .inl t_row_1))] → va_S A s.heap H locs → lv_has ls 3 [(0, .ref tA), (1, .int (nI a1))] → W p l e rX5_begins s m args below meth c H locs 0 0 Q (F0 m 36 ls []) := by
    intro t_row_1 hE  H locs ls hP hD hS hl
    try rw [hE] at E
    refine lv_aload_n hx hb dX5_begins_36 rfl (lv_at hl 0 rfl) ?_
    refine va_get (ci := 5) (v := .ref tA_row) (C := RX5) (T := TX5) (N := 25) hx hb hts inlX5 hown hK.1 hP 0 rfl rfl 9 (by decide) (hts _ kw_97) (fun _ h9 => h9) rfl dX5_begins_37 ?_
    refine lv_bipush (v := 20) hx hb dX5_begins_40 (by decide) ?_
    refine lv_iload_n hx hb dX5_begins_42 rfl (lv_at hl 1 rfl) ?_
    refine lv_imul hx hb dX5_begins_43 ?_
    refine x_eqi (pk_mul 20 a1) ?_
    refine lv_bipush (v := 9) hx hb dX5_begins_44 (by decide) ?_
    refine lv_iadd hx hb dX5_begins_46 ?_
    refine x_eqi (nI_add (20 * a1) 9) ?_
    refine lv_aload_n hx hb dX5_begins_47 rfl (lv_at hl 0 rfl) ?_
    refine va_get (ci := 5) (v := .ref tA_is) (C := RX5) (T := TX5) (N := 25) hx hb hts inlX5 hown hK.1 hP 0 rfl rfl 5 (by decide) (hts _ kw_94) (fun _ h9 => h9) rfl dX5_begins_48 ?_
    refine lv_iconst (v := 3) hx hb dX5_begins_51 (by decide) ?_
    refine x_ialdN hx hb hK hP 1 3 rfl (by omega) (by decide) dX5_begins_52 ?_
    refine x_iastN hx hb hK hP hD hS 2 ((20 * a1) + 9) rfl (by omega) (by decide) dX5_begins_53 (fun t_row_3 H locs hf hP hD hS => ?_)
    have hP : va_P g.1 vwCl [(tA, .inr (5, [.int (nI t_length), .ref tA_text, .int (nI t_at), .int (nI t_begin), .int t_told, .ref tA_is, .ref tA_doings, .ref tA_doing, .int t_items, .ref tA_row, .ref tA_isKept, .int t_when, .int t_most, .int t_mostAt, .int t_hiss, .ref tA_best, .ref tA_heats, .ref tA_orders, .ref tA_has, .int (nI t_tests), .ref tA_salt, .ref tA_crumbs, .long t_traced, .int t_hasSkin, .int t_hasBend])), (tA_is, .inl (g.2.1 0, 18, .inl t_is)), (tA_row, .inl (g.2.1 0, 80, .inl t_row_3))] H := hP
    have hD : va_D A [(tA, .inr (5, [.int (nI t_length), .ref tA_text, .int (nI t_at), .int (nI t_begin), .int t_told, .ref tA_is, .ref tA_doings, .ref tA_doing, .int t_items, .ref tA_row, .ref tA_isKept, .int t_when, .int t_most, .int t_mostAt, .int t_hiss, .ref tA_best, .ref tA_heats, .ref tA_orders, .ref tA_has, .int (nI t_tests), .ref tA_salt, .ref tA_crumbs, .long t_traced, .int t_hasSkin, .int t_hasBend])), (tA_is, .inl (g.2.1 0, 18, .inl t_is)), (tA_row, .inl (g.2.1 0, 80, .inl t_row_3))] := hD
    have E := x_nm_eq E hf
    refine lv_aload_n hx hb dX5_begins_54 rfl (lv_at hl 0 rfl) ?_
    refine va_get (ci := 5) (v := .ref tA_row) (C := RX5) (T := TX5) (N := 25) hx hb hts inlX5 hown hK.1 hP 0 rfl rfl 9 (by decide) (hts _ kw_97) (fun _ h9 => h9) rfl dX5_begins_55 ?_
    refine lv_bipush (v := 20) hx hb dX5_begins_58 (by decide) ?_
    refine lv_iload_n hx hb dX5_begins_60 rfl (lv_at hl 1 rfl) ?_
    refine lv_imul hx hb dX5_begins_61 ?_
    refine x_eqi (pk_mul 20 a1) ?_
    refine lv_bipush (v := 14) hx hb dX5_begins_62 (by decide) ?_
    refine lv_iadd hx hb dX5_begins_64 ?_
    refine x_eqi (nI_add (20 * a1) 14) ?_
    refine lv_bipush (v := (-9)) hx hb dX5_begins_65 (by decide) ?_
    refine x_iastN hx hb hK hP hD hS 2 ((20 * a1) + 14) rfl (by omega) (by decide) dX5_begins_67 (fun t_row_4 H locs hf hP hD hS => ?_)
    have hP : va_P g.1 vwCl [(tA, .inr (5, [.int (nI t_length), .ref tA_text, .int (nI t_at), .int (nI t_begin), .int t_told, .ref tA_is, .ref tA_doings, .ref tA_doing, .int t_items, .ref tA_row, .ref tA_isKept, .int t_when, .int t_most, .int t_mostAt, .int t_hiss, .ref tA_best, .ref tA_heats, .ref tA_orders, .ref tA_has, .int (nI t_tests), .ref tA_salt, .ref tA_crumbs, .long t_traced, .int t_hasSkin, .int t_hasBend])), (tA_is, .inl (g.2.1 0, 18, .inl t_is)), (tA_row, .inl (g.2.1 0, 80, .inl t_row_4))] H := hP
    have hD : va_D A [(tA, .inr (5, [.int (nI t_length), .ref tA_text, .int (nI t_at), .int (nI t_begin), .int t_told, .ref tA_is, .ref tA_doings, .ref tA_doing, .int t_items, .ref tA_row, .ref tA_isKept, .int t_when, .int t_most, .int t_mostAt, .int t_hiss, .ref tA_best, .ref tA_heats, .ref tA_orders, .ref tA_has, .int (nI t_tests), .ref tA_salt, .ref tA_crumbs, .long t_traced, .int t_hasSkin, .int t_hasBend])), (tA_is, .inl (g.2.1 0, 18, .inl t_is)), (tA_row, .inl (g.2.1 0, 80, .inl t_row_4))] := hD
    have E := x_nm_eq E hf
    exact RET t_row_4 H locs _ _ (E.symm.trans hO) hP hD hS dX5_begins_68
  have E := E_2
  have L_7 : ∀ (n_7 : Nat) (k2_5 : Nat) (t_row_6 : Nat → Int32), (k2_5 ≤ 20) → ((20 - k2_5) < n_7) → o_2 = F_X5_begins_L2 a1 n_7 k2_5 t_row_6 → ∀ (H : Heap) (locs : List Loc) (ls : Array Slot), va_P g.1 vwCl [(tA, .inr (5, [.int (nI t_length), .ref tA_text, .int (nI t_at), .int (nI t_begin), .int t_told, .ref tA_is, .ref tA_doings, .ref tA_doing, .int t_items, .ref tA_row, .ref tA_isKept, .int t_when, .int t_most, .int t_mostAt, .int t_hiss, .ref tA_best, .ref tA_heats, .ref tA_orders, .ref tA_has, .int (nI t_tests), .ref tA_salt, .ref tA_crumbs, .long t_traced, .int t_hasSkin, .int t_hasBend])), (tA_is, .inl (g.2.1 0, 18, .inl t_is)), (tA_row, .inl (g.2.1 0, 80, .inl t_row_6))] H → va_D A [(tA, .inr (5, [.int (nI t_length), .ref tA_text, .int (nI t_at), .int (nI t_begin), .int t_told, .ref tA_is, .ref tA_doings, .ref tA_doing, .int t_items, .ref tA_row, .ref tA_isKept, .int t_when, .int t_most, .int t_mostAt, .int t_hiss, .ref tA_best, .ref tA_heats, .ref tA_orders, .ref tA_has, .int (nI t_tests), .ref tA_salt, .ref tA_crumbs, .long t_traced, .int t_hasSkin, .int t_hasBend])), (tA_is, .inl (g.2.1 0, 18, .inl t_is)), (tA_row, .inl (g.2.1 0, 80, .inl t_row_6))] → va_S A s.heap H locs → lv_has ls 3 [(0, .ref tA), (1, .int (nI a1)), (2, .int (nI k2_5))] → W p l e rX5_begins s m args below meth c H locs 0 0 Q (F0 m 2 ls []) := by
    intro n_7
    induction n_7 with
    | zero => intro k2_5 t_row_6 i_7_0 i_7_1; exact absurd i_7_1 (by omega)
    | succ n_7 ih_7 =>
      intro k2_5 t_row_6 i_7_0 i_7_1 E H locs ls hP hD hS hl
      rw [F_X5_begins_L2.eq_2] at E
      refine lv_iload_n hx hb dX5_begins_2 rfl (lv_at hl 2 rfl) ?_
      refine lv_bipush (v := 20) hx hb dX5_begins_3 (by decide) ?_
      refine x_icmp_ge (a := k2_5) (b := 20) (tgt := 36) hx hb (by omega) (by omega) dX5_begins_5 (by decide) (fun c_8 => ?_) (fun c_8 => ?_)
      · have E := x_pos E c_8
        exact J_2 t_row_6 E  H locs ls hP hD hS (lv_sub hl [0, 1] rfl)
      · have E := x_neg E c_8
        refine lv_aload_n hx hb dX5_begins_8 rfl (lv_at hl 0 rfl) ?_
        refine va_get (ci := 5) (v := .ref tA_row) (C := RX5) (T := TX5) (N := 25) hx hb hts inlX5 hown hK.1 hP 0 rfl rfl 9 (by decide) (hts _ kw_97) (fun _ h9 => h9) rfl dX5_begins_9 ?_
        refine lv_bipush (v := 20) hx hb dX5_begins_12 (by decide) ?_
        refine lv_iload_n hx hb dX5_begins_14 rfl (lv_at hl 1 rfl) ?_
        refine lv_imul hx hb dX5_begins_15 ?_
        refine x_eqi (pk_mul 20 a1) ?_
        refine lv_iload_n hx hb dX5_begins_16 rfl (lv_at hl 2 rfl) ?_
        refine lv_iadd hx hb dX5_begins_17 ?_
        refine x_eqi (nI_add (20 * a1) k2_5) ?_
        refine lv_iload_n hx hb dX5_begins_18 rfl (lv_at hl 2 rfl) ?_
        refine lv_iconst (v := 4) hx hb dX5_begins_19 (by decide) ?_
        obtain ⟨o_10, E_10, E⟩ := x_nm_ex E
        have J_10 : ∀ (v_9 : Int32), o_10 = v_9 → ∀ (H : Heap) (locs : List Loc) (ls : Array Slot), va_P g.1 vwCl [(tA, .inr (5, [.int (nI t_length), .ref tA_text, .int (nI t_at), .int (nI t_begin), .int t_told, .ref tA_is, .ref tA_doings, .ref tA_doing, .int t_items, .ref tA_row, .ref tA_isKept, .int t_when, .int t_most, .int t_mostAt, .int t_hiss, .ref tA_best, .ref tA_heats, .ref tA_orders, .ref tA_has, .int (nI t_tests), .ref tA_salt, .ref tA_crumbs, .long t_traced, .int t_hasSkin, .int t_hasBend])), (tA_is, .inl (g.2.1 0, 18, .inl t_is)), (tA_row, .inl (g.2.1 0, 80, .inl t_row_6))] H → va_D A [(tA, .inr (5, [.int (nI t_length), .ref tA_text, .int (nI t_at), .int (nI t_begin), .int t_told, .ref tA_is, .ref tA_doings, .ref tA_doing, .int t_items, .ref tA_row, .ref tA_isKept, .int t_when, .int t_most, .int t_mostAt, .int t_hiss, .ref tA_best, .ref tA_heats, .ref tA_orders, .ref tA_has, .int (nI t_tests), .ref tA_salt, .ref tA_crumbs, .long t_traced, .int t_hasSkin, .int t_hasBend])), (tA_is, .inl (g.2.1 0, 18, .inl t_is)), (tA_row, .inl (g.2.1 0, 80, .inl t_row_6))] → va_S A s.heap H locs → lv_has ls 3 [(0, .ref tA), (1, .int (nI a1)), (2, .int (nI k2_5))] → W p l e rX5_begins s m args below meth c H locs 0 0 Q (F0 m 29 ls [.int v_9, .int (nI ((20 * a1) + k2_5)), .ref tA_row]) := by
          intro v_9 hE  H locs ls hP hD hS hl
          try rw [hE] at E
          refine x_iastN hx hb hK hP hD hS 2 ((20 * a1) + k2_5) rfl (by omega) (by decide) dX5_begins_29 (fun t_row_11 H locs hf hP hD hS => ?_)
          have hP : va_P g.1 vwCl [(tA, .inr (5, [.int (nI t_length), .ref tA_text, .int (nI t_at), .int (nI t_begin), .int t_told, .ref tA_is, .ref tA_doings, .ref tA_doing, .int t_items, .ref tA_row, .ref tA_isKept, .int t_when, .int t_most, .int t_mostAt, .int t_hiss, .ref tA_best, .ref tA_heats, .ref tA_orders, .ref tA_has, .int (nI t_tests), .ref tA_salt, .ref tA_crumbs, .long t_traced, .int t_hasSkin, .int t_hasBend])), (tA_is, .inl (g.2.1 0, 18, .inl t_is)), (tA_row, .inl (g.2.1 0, 80, .inl t_row_11))] H := hP
          have hD : va_D A [(tA, .inr (5, [.int (nI t_length), .ref tA_text, .int (nI t_at), .int (nI t_begin), .int t_told, .ref tA_is, .ref tA_doings, .ref tA_doing, .int t_items, .ref tA_row, .ref tA_isKept, .int t_when, .int t_most, .int t_mostAt, .int t_hiss, .ref tA_best, .ref tA_heats, .ref tA_orders, .ref tA_has, .int (nI t_tests), .ref tA_salt, .ref tA_crumbs, .long t_traced, .int t_hasSkin, .int t_hasBend])), (tA_is, .inl (g.2.1 0, 18, .inl t_is)), (tA_row, .inl (g.2.1 0, 80, .inl t_row_11))] := hD
          have E := x_nm_eq E hf
          refine lv_iinc (v := nI (k2_5 + 1)) (lv' := [(2, .int (nI (k2_5 + 1))), (0, .ref tA), (1, .int (nI a1))]) hx hb dX5_begins_30 hl (k := 2) rfl (nI_1 k2_5) (by decide) rfl (fun ls hl => ?_)
          refine lv_goto (tgt := 2) hx hb dX5_begins_33 (by decide) ?_
          exact ih_7 (k2_5 + 1) t_row_11 (by first | omega | assumption | exact Eq.trans (by assumption) (by assumption)) (by omega) E H locs ls hP hD hS (lv_sub hl [1, 2, 0] rfl)
        have E := E_10
        refine x_icmp_gt (a := k2_5) (b := 4) (tgt := 28) hx hb (by omega) (by omega) dX5_begins_20 (by decide) (fun c_12 => ?_) (fun c_12 => ?_)
        · have E := x_pos E c_12
          refine lv_iconst (v := 0) hx hb dX5_begins_28 (by decide) ?_
          exact J_10 0 E  H locs ls hP hD hS (lv_sub hl [0, 1, 2] rfl)
        · have E := x_neg E c_12
          refine lv_bipush (v := 20) hx hb dX5_begins_23 (by decide) ?_
          refine lv_goto (tgt := 29) hx hb dX5_begins_25 (by decide) ?_
          exact J_10 20 E  H locs ls hP hD hS (lv_sub hl [0, 1, 2] rfl)
  exact L_7 (20 + 1) 0 t_row (by first | omega | assumption | rfl) (by omega) E H locs ls hP hD hS (lv_sub hl [1, 2, 0] rfl)
abbrev rX5_anew : Room := { frames := 1, cells := 0, slots := 0, locals := 22 }
theorem vX5_anew : yX5_anew.cls = RX5 ∧ yX5_anew.cls ≠ "java/lang/invoke/MethodHandle" ∧ yX5_anew.cls ≠ "java/lang/invoke/VarHandle" ∧ (parseMethodDescriptor yX5_anew.desc).map (fun d => d.parameters.length) = some 0 := by decide +kernel
abbrev wX5_anew : List Cond := Cond.code yX5_anew cX5_anew 2 (some .int) :: wsL_law
def F_X5_anew (t_is : Nat → Int32) (t_row : Nat → Int32) : Int32 × (Nat → Int32) :=
  x_nm (F_X5_begins t_is t_row 0) fun t_row_1 => (t_row 12, t_row_1)
set_option maxHeartbeats 4000000 in
set_option maxRecDepth 100000 in
theorem m_X5_anew (l : Launch) (g : x_G) (tA tA_is tA_row tA_text tA_doings tA_doing tA_isKept tA_best tA_heats tA_orders tA_has tA_salt tA_crumbs : Nat) (t_length : Nat) (t_at : Nat) (t_begin : Nat) (t_told : Int32) (t_items : Int32) (t_when : Int32) (t_most : Int32) (t_mostAt : Int32) (t_hiss : Int32) (t_tests : Nat) (t_traced : Int64) (t_hasSkin : Int32) (t_hasBend : Int32) (t_is : Nat → Int32) (t_row : Nat → Int32) : x_MetI l yX5_anew wX5_anew rX5_anew g [.ref tA] [(tA, .inr (5, [.int (nI t_length), .ref tA_text, .int (nI t_at), .int (nI t_begin), .int t_told, .ref tA_is, .ref tA_doings, .ref tA_doing, .int t_items, .ref tA_row, .ref tA_isKept, .int t_when, .int t_most, .int t_mostAt, .int t_hiss, .ref tA_best, .ref tA_heats, .ref tA_orders, .ref tA_has, .int (nI t_tests), .ref tA_salt, .ref tA_crumbs, .long t_traced, .int t_hasSkin, .int t_hasBend])), (tA_is, .inl (g.2.1 0, 18, .inl t_is)), (tA_row, .inl (g.2.1 0, 80, .inl t_row))] (fun (r : Int32) (u : (Nat → Int32)) => (r, u) = F_X5_anew t_is t_row) (fun u => [(tA, .inr (5, [.int (nI t_length), .ref tA_text, .int (nI t_at), .int (nI t_begin), .int t_told, .ref tA_is, .ref tA_doings, .ref tA_doing, .int t_items, .ref tA_row, .ref tA_isKept, .int t_when, .int t_most, .int t_mostAt, .int t_hiss, .ref tA_best, .ref tA_heats, .ref tA_orders, .ref tA_has, .int (nI t_tests), .ref tA_salt, .ref tA_crumbs, .long t_traced, .int t_hasSkin, .int t_hasBend])), (tA_is, .inl (g.2.1 0, 18, .inl t_is)), (tA_row, .inl (g.2.1 0, 80, .inl u))]) := by
  refine x_startI (cc := cX5_anew) (maxL := 2) (by decide) rfl (Nat.le_of_ble_eq_true rfl) ?_
  intro p e s m args below meth c Q A ls H locs hx hb hml hown hts hK hX hP hD hS hA hl RET
  have hown : s.vm.findClass RX5 = some m.cls := hown
  have hl : lv_has ls 2 [(0, .ref tA)] := hl
  obtain ⟨o_0, hO⟩ : ∃ z, z = F_X5_anew t_is t_row := ⟨_, rfl⟩
  have E := hO
  rw [F_X5_anew.eq_1] at E
  refine lv_aload_n hx hb dX5_anew_0 rfl (lv_at hl 0 rfl) ?_
  refine va_get (ci := 5) (v := .ref tA_row) (C := RX5) (T := TX5) (N := 25) hx hb hts inlX5 hown hK.1 hP 0 rfl rfl 9 (by decide) (hts _ kw_97) (fun _ h9 => h9) rfl dX5_anew_1 ?_
  refine lv_bipush (v := 12) hx hb dX5_anew_4 (by decide) ?_
  refine x_ialdN hx hb hK hP 2 12 rfl (by omega) (by decide) dX5_anew_6 ?_
  refine lv_istore_n (lv' := [(1, .int (t_row 12)), (0, .ref tA)]) hx hb dX5_anew_7 rfl hl (by decide) rfl (fun ls hl => ?_)
  refine lv_aload_n hx hb dX5_anew_8 rfl (lv_at hl 1 rfl) ?_
  refine lv_iconst (v := 0) hx hb dX5_anew_9 (by decide) ?_
  refine x_callVv (w2 := fun u => [(tA, .inr (5, [.int (nI t_length), .ref tA_text, .int (nI t_at), .int (nI t_begin), .int t_told, .ref tA_is, .ref tA_doings, .ref tA_doing, .int t_items, .ref tA_row, .ref tA_isKept, .int t_when, .int t_most, .int t_mostAt, .int t_hiss, .ref tA_best, .ref tA_heats, .ref tA_orders, .ref tA_has, .int (nI t_tests), .ref tA_salt, .ref tA_crumbs, .long t_traced, .int t_hasSkin, .int t_hasBend])), (tA_is, .inl (g.2.1 0, 18, .inl t_is)), (tA_row, .inl (g.2.1 0, 80, .inl u))]) (wr := []) [0, 1, 2] [] [0, 1, 2] 0 5 ⟨hx, hb, hml, hown, hts⟩ hK hX hP hD hS hA (m_X5_begins l g tA tA_is tA_row tA_text tA_doings tA_doing tA_isKept tA_best tA_heats tA_orders tA_has tA_salt tA_crumbs t_length t_at t_begin t_told t_items t_when t_most t_mostAt t_hiss t_tests t_traced t_hasSkin t_hasBend t_is t_row 0 (by first | assumption | omega | exact x_e8 (by assumption) (by assumption))) (cwV 1 hts (x_gV kw_106 kw_107 kw_108 kw_5 kw_109) rfl rfl rfl vX5_begins ⟨Nat.le_of_ble_eq_true rfl, Nat.le_of_ble_eq_true rfl⟩) rfl rfl rfl rfl rfl rfl rfl (by decide) (fun _ => rfl) rfl rfl hl.1 rfl (Nat.le_of_ble_eq_true rfl) dX5_anew_10 ⟨Nat.zero_le _, Nat.zero_le _⟩ (fun t_row_1 H locs hw_2 hP hD hS => ?_)
  have hP : va_P g.1 vwCl [(tA, .inr (5, [.int (nI t_length), .ref tA_text, .int (nI t_at), .int (nI t_begin), .int t_told, .ref tA_is, .ref tA_doings, .ref tA_doing, .int t_items, .ref tA_row, .ref tA_isKept, .int t_when, .int t_most, .int t_mostAt, .int t_hiss, .ref tA_best, .ref tA_heats, .ref tA_orders, .ref tA_has, .int (nI t_tests), .ref tA_salt, .ref tA_crumbs, .long t_traced, .int t_hasSkin, .int t_hasBend])), (tA_is, .inl (g.2.1 0, 18, .inl t_is)), (tA_row, .inl (g.2.1 0, 80, .inl t_row_1))] H := hP
  have hD : va_D A [(tA, .inr (5, [.int (nI t_length), .ref tA_text, .int (nI t_at), .int (nI t_begin), .int t_told, .ref tA_is, .ref tA_doings, .ref tA_doing, .int t_items, .ref tA_row, .ref tA_isKept, .int t_when, .int t_most, .int t_mostAt, .int t_hiss, .ref tA_best, .ref tA_heats, .ref tA_orders, .ref tA_has, .int (nI t_tests), .ref tA_salt, .ref tA_crumbs, .long t_traced, .int t_hasSkin, .int t_hasBend])), (tA_is, .inl (g.2.1 0, 18, .inl t_is)), (tA_row, .inl (g.2.1 0, 80, .inl t_row_1))] := hD
  have E := x_nm_eq E hw_2
  refine lv_iload_n hx hb dX5_anew_13 rfl (lv_at hl 0 rfl) ?_
  exact RET (t_row 12) t_row_1 H locs _ _ (E.symm.trans hO) rfl hP hD hS dX5_anew_14
abbrev rX5_press : Room := { frames := 0, cells := 0, slots := 0, locals := 0 }
theorem vX5_press : yX5_press.cls = RX5 ∧ yX5_press.cls ≠ "java/lang/invoke/MethodHandle" ∧ yX5_press.cls ≠ "java/lang/invoke/VarHandle" ∧ (parseMethodDescriptor yX5_press.desc).map (fun d => d.parameters.length) = some 1 := by decide +kernel
abbrev wX5_press : List Cond := Cond.code yX5_press cX5_press 5 (some .int) :: wsL_law
def F_X5_press (t_is : Nat → Int32) (t_row : Nat → Int32) (a1 : Nat) : Int32 :=
  if (t_row ((20 * a1) + 13)) ≤ 0 then x_nm (α := Int32) (if (((t_row ((20 * a1) + 4)) - 40) / 4) ≤ 0 then 0 else ((t_row ((20 * a1) + 4)) - 40) / 4) fun u_3 => x_nm (α := Int32) (if 0 ≤ ((((t_is 2) + u_3) + ((t_row ((20 * a1) + 15)) / 2)) - (5 * (t_row ((20 * a1) + 10)))) then (((t_is 2) + u_3) + ((t_row ((20 * a1) + 15)) / 2)) - (5 * (t_row ((20 * a1) + 10))) else 0) fun u_5 => u_5 else 0
set_option maxHeartbeats 4000000 in
set_option maxRecDepth 100000 in
theorem m_X5_press (l : Launch) (g : x_G) (tA tA_is tA_row tA_text tA_doings tA_doing tA_isKept tA_best tA_heats tA_orders tA_has tA_salt tA_crumbs : Nat) (t_length : Nat) (t_at : Nat) (t_begin : Nat) (t_told : Int32) (t_items : Int32) (t_when : Int32) (t_most : Int32) (t_mostAt : Int32) (t_hiss : Int32) (t_tests : Nat) (t_traced : Int64) (t_hasSkin : Int32) (t_hasBend : Int32) (t_is : Nat → Int32) (t_row : Nat → Int32) (a1 : Nat) (h_0 : a1 < 4) : x_MetI l yX5_press wX5_press rX5_press g [.ref tA, .int (nI a1)] [(tA, .inr (5, [.int (nI t_length), .ref tA_text, .int (nI t_at), .int (nI t_begin), .int t_told, .ref tA_is, .ref tA_doings, .ref tA_doing, .int t_items, .ref tA_row, .ref tA_isKept, .int t_when, .int t_most, .int t_mostAt, .int t_hiss, .ref tA_best, .ref tA_heats, .ref tA_orders, .ref tA_has, .int (nI t_tests), .ref tA_salt, .ref tA_crumbs, .long t_traced, .int t_hasSkin, .int t_hasBend])), (tA_is, .inl (g.2.1 0, 18, .inl t_is)), (tA_row, .inl (g.2.1 0, 80, .inl t_row))] (fun (r : Int32) (u : Unit) => r = F_X5_press t_is t_row a1) (fun _ => [(tA, .inr (5, [.int (nI t_length), .ref tA_text, .int (nI t_at), .int (nI t_begin), .int t_told, .ref tA_is, .ref tA_doings, .ref tA_doing, .int t_items, .ref tA_row, .ref tA_isKept, .int t_when, .int t_most, .int t_mostAt, .int t_hiss, .ref tA_best, .ref tA_heats, .ref tA_orders, .ref tA_has, .int (nI t_tests), .ref tA_salt, .ref tA_crumbs, .long t_traced, .int t_hasSkin, .int t_hasBend])), (tA_is, .inl (g.2.1 0, 18, .inl t_is)), (tA_row, .inl (g.2.1 0, 80, .inl t_row))]) := by
  refine x_startI (cc := cX5_press) (maxL := 5) (by decide) rfl (Nat.le_of_ble_eq_true rfl) ?_
  intro p e s m args below meth c Q A ls H locs hx hb hml hown hts hK hX hP hD hS hA hl RET
  have hown : s.vm.findClass RX5 = some m.cls := hown
  have hl : lv_has ls 5 [(0, .ref tA), (1, .int (nI a1))] := hl
  obtain ⟨o_0, hO⟩ : ∃ z, z = F_X5_press t_is t_row a1 := ⟨_, rfl⟩
  have E := hO
  rw [F_X5_press.eq_1] at E
  refine lv_bipush (v := 20) hx hb dX5_press_0 (by decide) ?_
  refine lv_iload_n hx hb dX5_press_2 rfl (lv_at hl 1 rfl) ?_
  refine lv_imul hx hb dX5_press_3 ?_
  refine x_eqi (pk_mul 20 a1) ?_
  refine lv_istore_n (lv' := [(2, .int (nI (20 * a1))), (0, .ref tA), (1, .int (nI a1))]) hx hb dX5_press_4 rfl hl (by decide) rfl (fun ls hl => ?_)
  refine lv_aload_n hx hb dX5_press_5 rfl (lv_at hl 1 rfl) ?_
  refine va_get (ci := 5) (v := .ref tA_row) (C := RX5) (T := TX5) (N := 25) hx hb hts inlX5 hown hK.1 hP 0 rfl rfl 9 (by decide) (hts _ kw_97) (fun _ h9 => h9) rfl dX5_press_6 ?_
  refine lv_iload_n hx hb dX5_press_9 rfl (lv_at hl 0 rfl) ?_
  refine lv_bipush (v := 13) hx hb dX5_press_10 (by decide) ?_
  refine lv_iadd hx hb dX5_press_12 ?_
  refine x_eqi (nI_add (20 * a1) 13) ?_
  refine x_ialdN hx hb hK hP 2 ((20 * a1) + 13) rfl (by omega) (by decide) dX5_press_13 ?_
  refine lv_if_le (tgt := 19) hx hb dX5_press_14 (by decide) (fun c_1 => ?_) (fun c_1 => ?_)
  · have E := x_pos E c_1
    refine lv_aload_n hx hb dX5_press_19 rfl (lv_at hl 1 rfl) ?_
    refine va_get (ci := 5) (v := .ref tA_row) (C := RX5) (T := TX5) (N := 25) hx hb hts inlX5 hown hK.1 hP 0 rfl rfl 9 (by decide) (hts _ kw_97) (fun _ h9 => h9) rfl dX5_press_20 ?_
    refine lv_iload_n hx hb dX5_press_23 rfl (lv_at hl 0 rfl) ?_
    refine lv_iconst (v := 4) hx hb dX5_press_24 (by decide) ?_
    refine lv_iadd hx hb dX5_press_25 ?_
    refine x_eqi (nI_add (20 * a1) 4) ?_
    refine x_ialdN hx hb hK hP 2 ((20 * a1) + 4) rfl (by omega) (by decide) dX5_press_26 ?_
    refine lv_bipush (v := 40) hx hb dX5_press_27 (by decide) ?_
    refine lv_isub hx hb dX5_press_29 ?_
    refine lv_iconst (v := 4) hx hb dX5_press_30 (by decide) ?_
    refine lv_idiv hx hb dX5_press_31 (by decide) ?_
    refine lv_istore_n (lv' := [(3, .int (((t_row ((20 * a1) + 4)) - 40) / 4)), (2, .int (nI (20 * a1))), (0, .ref tA), (1, .int (nI a1))]) hx hb dX5_press_32 rfl hl (by decide) rfl (fun ls hl => ?_)
    refine lv_aload_n hx hb dX5_press_33 rfl (lv_at hl 2 rfl) ?_
    refine va_get (ci := 5) (v := .ref tA_is) (C := RX5) (T := TX5) (N := 25) hx hb hts inlX5 hown hK.1 hP 0 rfl rfl 5 (by decide) (hts _ kw_94) (fun _ h9 => h9) rfl dX5_press_34 ?_
    refine lv_iconst (v := 2) hx hb dX5_press_37 (by decide) ?_
    refine x_ialdN hx hb hK hP 1 2 rfl (by omega) (by decide) dX5_press_38 ?_
    refine lv_iload_n hx hb dX5_press_39 rfl (lv_at hl 0 rfl) ?_
    obtain ⟨o_3, E_3, E⟩ := x_nm_ex E
    have J_3 : ∀ (v_2 : Int32), o_3 = v_2 → ∀ (H : Heap) (locs : List Loc) (ls : Array Slot), va_P g.1 vwCl [(tA, .inr (5, [.int (nI t_length), .ref tA_text, .int (nI t_at), .int (nI t_begin), .int t_told, .ref tA_is, .ref tA_doings, .ref tA_doing, .int t_items, .ref tA_row, .ref tA_isKept, .int t_when, .int t_most, .int t_mostAt, .int t_hiss, .ref tA_best, .ref tA_heats, .ref tA_orders, .ref tA_has, .int (nI t_tests), .ref tA_salt, .ref tA_crumbs, .long t_traced, .int t_hasSkin, .int t_hasBend])), (tA_is, .inl (g.2.1 0, 18, .inl t_is)), (tA_row, .inl (g.2.1 0, 80, .inl t_row))] H → va_D A [(tA, .inr (5, [.int (nI t_length), .ref tA_text, .int (nI t_at), .int (nI t_begin), .int t_told, .ref tA_is, .ref tA_doings, .ref tA_doing, .int t_items, .ref tA_row, .ref tA_isKept, .int t_when, .int t_most, .int t_mostAt, .int t_hiss, .ref tA_best, .ref tA_heats, .ref tA_orders, .ref tA_has, .int (nI t_tests), .ref tA_salt, .ref tA_crumbs, .long t_traced, .int t_hasSkin, .int t_hasBend])), (tA_is, .inl (g.2.1 0, 18, .inl t_is)), (tA_row, .inl (g.2.1 0, 80, .inl t_row))] → va_S A s.heap H locs → lv_has ls 5 [(0, .ref tA), (2, .int (nI (20 * a1)))] → W p l e rX5_press s m args below meth c H locs 0 0 Q (F0 m 48 ls [.int v_2, .int (t_is 2)]) := by
      intro v_2 hE  H locs ls hP hD hS hl
      try rw [hE] at E
      refine lv_iadd hx hb dX5_press_48 ?_
      refine lv_aload_n hx hb dX5_press_49 rfl (lv_at hl 0 rfl) ?_
      refine va_get (ci := 5) (v := .ref tA_row) (C := RX5) (T := TX5) (N := 25) hx hb hts inlX5 hown hK.1 hP 0 rfl rfl 9 (by decide) (hts _ kw_97) (fun _ h9 => h9) rfl dX5_press_50 ?_
      refine lv_iload_n hx hb dX5_press_53 rfl (lv_at hl 1 rfl) ?_
      refine lv_bipush (v := 15) hx hb dX5_press_54 (by decide) ?_
      refine lv_iadd hx hb dX5_press_56 ?_
      refine x_eqi (nI_add (20 * a1) 15) ?_
      refine x_ialdN hx hb hK hP 2 ((20 * a1) + 15) rfl (by omega) (by decide) dX5_press_57 ?_
      refine lv_iconst (v := 2) hx hb dX5_press_58 (by decide) ?_
      refine lv_idiv hx hb dX5_press_59 (by decide) ?_
      refine lv_iadd hx hb dX5_press_60 ?_
      refine lv_iconst (v := 5) hx hb dX5_press_61 (by decide) ?_
      refine lv_aload_n hx hb dX5_press_62 rfl (lv_at hl 0 rfl) ?_
      refine va_get (ci := 5) (v := .ref tA_row) (C := RX5) (T := TX5) (N := 25) hx hb hts inlX5 hown hK.1 hP 0 rfl rfl 9 (by decide) (hts _ kw_97) (fun _ h9 => h9) rfl dX5_press_63 ?_
      refine lv_iload_n hx hb dX5_press_66 rfl (lv_at hl 1 rfl) ?_
      refine lv_bipush (v := 10) hx hb dX5_press_67 (by decide) ?_
      refine lv_iadd hx hb dX5_press_69 ?_
      refine x_eqi (nI_add (20 * a1) 10) ?_
      refine x_ialdN hx hb hK hP 2 ((20 * a1) + 10) rfl (by omega) (by decide) dX5_press_70 ?_
      refine lv_imul hx hb dX5_press_71 ?_
      refine lv_isub hx hb dX5_press_72 ?_
      refine lv_istore (lv' := [(4, .int ((((t_is 2) + v_2) + ((t_row ((20 * a1) + 15)) / 2)) - (5 * (t_row ((20 * a1) + 10))))), (0, .ref tA), (2, .int (nI (20 * a1)))]) hx hb dX5_press_73 hl (by decide) rfl (fun ls hl => ?_)
      refine lv_iload hx hb dX5_press_75 (lv_at hl 0 rfl) ?_
      obtain ⟨o_5, E_5, E⟩ := x_nm_ex E
      have J_5 : ∀ (v_4 : Int32), o_5 = v_4 → ∀ (H : Heap) (locs : List Loc) (ls : Array Slot), va_P g.1 vwCl [(tA, .inr (5, [.int (nI t_length), .ref tA_text, .int (nI t_at), .int (nI t_begin), .int t_told, .ref tA_is, .ref tA_doings, .ref tA_doing, .int t_items, .ref tA_row, .ref tA_isKept, .int t_when, .int t_most, .int t_mostAt, .int t_hiss, .ref tA_best, .ref tA_heats, .ref tA_orders, .ref tA_has, .int (nI t_tests), .ref tA_salt, .ref tA_crumbs, .long t_traced, .int t_hasSkin, .int t_hasBend])), (tA_is, .inl (g.2.1 0, 18, .inl t_is)), (tA_row, .inl (g.2.1 0, 80, .inl t_row))] H → va_D A [(tA, .inr (5, [.int (nI t_length), .ref tA_text, .int (nI t_at), .int (nI t_begin), .int t_told, .ref tA_is, .ref tA_doings, .ref tA_doing, .int t_items, .ref tA_row, .ref tA_isKept, .int t_when, .int t_most, .int t_mostAt, .int t_hiss, .ref tA_best, .ref tA_heats, .ref tA_orders, .ref tA_has, .int (nI t_tests), .ref tA_salt, .ref tA_crumbs, .long t_traced, .int t_hasSkin, .int t_hasBend])), (tA_is, .inl (g.2.1 0, 18, .inl t_is)), (tA_row, .inl (g.2.1 0, 80, .inl t_row))] → va_S A s.heap H locs → lv_has ls 5 [] → W p l e rX5_press s m args below meth c H locs 0 0 Q (F0 m 86 ls [.int v_4]) := by
        intro v_4 hE  H locs ls hP hD hS hl
        try rw [hE] at E
        exact RET v_4 () H locs _ _ (E.symm.trans hO) rfl hP hD hS dX5_press_86
      have E := E_5
      refine lv_if_ge (tgt := 84) hx hb dX5_press_77 (by decide) (fun c_6 => ?_) (fun c_6 => ?_)
      · have E := x_pos E c_6
        refine lv_iload hx hb dX5_press_84 (lv_at hl 0 rfl) ?_
        exact J_5 ((((t_is 2) + v_2) + ((t_row ((20 * a1) + 15)) / 2)) - (5 * (t_row ((20 * a1) + 10)))) E  H locs ls hP hD hS (lv_sub hl [] rfl)
      · have E := x_neg E c_6
        refine lv_iconst (v := 0) hx hb dX5_press_80 (by decide) ?_
        refine lv_goto (tgt := 86) hx hb dX5_press_81 (by decide) ?_
        exact J_5 0 E  H locs ls hP hD hS (lv_sub hl [] rfl)
    have E := E_3
    refine lv_if_le (tgt := 47) hx hb dX5_press_40 (by decide) (fun c_7 => ?_) (fun c_7 => ?_)
    · have E := x_pos E c_7
      refine lv_iconst (v := 0) hx hb dX5_press_47 (by decide) ?_
      exact J_3 0 E  H locs ls hP hD hS (lv_sub hl [2, 1] rfl)
    · have E := x_neg E c_7
      refine lv_iload_n hx hb dX5_press_43 rfl (lv_at hl 0 rfl) ?_
      refine lv_goto (tgt := 48) hx hb dX5_press_44 (by decide) ?_
      exact J_3 (((t_row ((20 * a1) + 4)) - 40) / 4) E  H locs ls hP hD hS (lv_sub hl [2, 1] rfl)
  · have E := x_neg E c_1
    refine lv_iconst (v := 0) hx hb dX5_press_17 (by decide) ?_
    exact RET 0 () H locs _ _ (E.symm.trans hO) rfl hP hD hS dX5_press_18
abbrev rX5_holdsAt : Room := { frames := 0, cells := 0, slots := 0, locals := 0 }
theorem vX5_holdsAt : yX5_holdsAt.cls = RX5 ∧ yX5_holdsAt.cls ≠ "java/lang/invoke/MethodHandle" ∧ yX5_holdsAt.cls ≠ "java/lang/invoke/VarHandle" ∧ (parseMethodDescriptor yX5_holdsAt.desc).map (fun d => d.parameters.length) = some 2 := by decide +kernel
abbrev wX5_holdsAt : List Cond := Cond.code yX5_holdsAt cX5_holdsAt 6 (some .int) :: wsL_law
def F_X5_holdsAt (t_is : Nat → Int32) (t_row : Nat → Int32) (a1 : Nat) (a2 : Nat) : Int32 :=
  x_nm (α := Int32) (if (((t_row ((20 * a1) + a2)) - 150) / 2) ≤ 0 then 0 else ((t_row ((20 * a1) + a2)) - 150) / 2) fun u_2 => x_nm (α := Int32) (if (((t_row ((20 * a1) + 11)) >>> ((nI a2) &&& 31)) &&& 1) = 1 then t_is 5 else 0) fun u_4 => x_nm (α := Int32) (if 1 ≤ (((t_is 1) - u_2) - u_4) then ((t_is 1) - u_2) - u_4 else 1) fun u_6 => u_6
set_option maxHeartbeats 4000000 in
set_option maxRecDepth 100000 in
theorem m_X5_holdsAt (l : Launch) (g : x_G) (tA tA_is tA_row tA_text tA_doings tA_doing tA_isKept tA_best tA_heats tA_orders tA_has tA_salt tA_crumbs : Nat) (t_length : Nat) (t_at : Nat) (t_begin : Nat) (t_told : Int32) (t_items : Int32) (t_when : Int32) (t_most : Int32) (t_mostAt : Int32) (t_hiss : Int32) (t_tests : Nat) (t_traced : Int64) (t_hasSkin : Int32) (t_hasBend : Int32) (t_is : Nat → Int32) (t_row : Nat → Int32) (a1 : Nat) (a2 : Nat) (h_0 : a1 < 4) (h_1 : a2 < 4) : x_MetI l yX5_holdsAt wX5_holdsAt rX5_holdsAt g [.ref tA, .int (nI a1), .int (nI a2)] [(tA, .inr (5, [.int (nI t_length), .ref tA_text, .int (nI t_at), .int (nI t_begin), .int t_told, .ref tA_is, .ref tA_doings, .ref tA_doing, .int t_items, .ref tA_row, .ref tA_isKept, .int t_when, .int t_most, .int t_mostAt, .int t_hiss, .ref tA_best, .ref tA_heats, .ref tA_orders, .ref tA_has, .int (nI t_tests), .ref tA_salt, .ref tA_crumbs, .long t_traced, .int t_hasSkin, .int t_hasBend])), (tA_is, .inl (g.2.1 0, 18, .inl t_is)), (tA_row, .inl (g.2.1 0, 80, .inl t_row))] (fun (r : Int32) (u : Unit) => r = F_X5_holdsAt t_is t_row a1 a2) (fun _ => [(tA, .inr (5, [.int (nI t_length), .ref tA_text, .int (nI t_at), .int (nI t_begin), .int t_told, .ref tA_is, .ref tA_doings, .ref tA_doing, .int t_items, .ref tA_row, .ref tA_isKept, .int t_when, .int t_most, .int t_mostAt, .int t_hiss, .ref tA_best, .ref tA_heats, .ref tA_orders, .ref tA_has, .int (nI t_tests), .ref tA_salt, .ref tA_crumbs, .long t_traced, .int t_hasSkin, .int t_hasBend])), (tA_is, .inl (g.2.1 0, 18, .inl t_is)), (tA_row, .inl (g.2.1 0, 80, .inl t_row))]) := by
  refine x_startI (cc := cX5_holdsAt) (maxL := 6) (by decide) rfl (Nat.le_of_ble_eq_true rfl) ?_
  intro p e s m args below meth c Q A ls H locs hx hb hml hown hts hK hX hP hD hS hA hl RET
  have hown : s.vm.findClass RX5 = some m.cls := hown
  have hl : lv_has ls 6 [(0, .ref tA), (1, .int (nI a1)), (2, .int (nI a2))] := hl
  obtain ⟨o_0, hO⟩ : ∃ z, z = F_X5_holdsAt t_is t_row a1 a2 := ⟨_, rfl⟩
  have E := hO
  rw [F_X5_holdsAt.eq_1] at E
  refine lv_bipush (v := 20) hx hb dX5_holdsAt_0 (by decide) ?_
  refine lv_iload_n hx hb dX5_holdsAt_2 rfl (lv_at hl 1 rfl) ?_
  refine lv_imul hx hb dX5_holdsAt_3 ?_
  refine x_eqi (pk_mul 20 a1) ?_
  refine lv_istore_n (lv' := [(3, .int (nI (20 * a1))), (0, .ref tA), (1, .int (nI a1)), (2, .int (nI a2))]) hx hb dX5_holdsAt_4 rfl hl (by decide) rfl (fun ls hl => ?_)
  refine lv_aload_n hx hb dX5_holdsAt_5 rfl (lv_at hl 1 rfl) ?_
  refine va_get (ci := 5) (v := .ref tA_row) (C := RX5) (T := TX5) (N := 25) hx hb hts inlX5 hown hK.1 hP 0 rfl rfl 9 (by decide) (hts _ kw_97) (fun _ h9 => h9) rfl dX5_holdsAt_6 ?_
  refine lv_iload_n hx hb dX5_holdsAt_9 rfl (lv_at hl 0 rfl) ?_
  refine lv_iload_n hx hb dX5_holdsAt_10 rfl (lv_at hl 3 rfl) ?_
  refine lv_iadd hx hb dX5_holdsAt_11 ?_
  refine x_eqi (nI_add (20 * a1) a2) ?_
  refine x_ialdN hx hb hK hP 2 ((20 * a1) + a2) rfl (by omega) (by decide) dX5_holdsAt_12 ?_
  refine lv_sipush (v := 150) hx hb dX5_holdsAt_13 (by decide) ?_
  refine lv_isub hx hb dX5_holdsAt_16 ?_
  refine lv_iconst (v := 2) hx hb dX5_holdsAt_17 (by decide) ?_
  refine lv_idiv hx hb dX5_holdsAt_18 (by decide) ?_
  refine lv_istore (lv' := [(4, .int (((t_row ((20 * a1) + a2)) - 150) / 2)), (3, .int (nI (20 * a1))), (0, .ref tA), (1, .int (nI a1)), (2, .int (nI a2))]) hx hb dX5_holdsAt_19 hl (by decide) rfl (fun ls hl => ?_)
  refine lv_aload_n hx hb dX5_holdsAt_21 rfl (lv_at hl 2 rfl) ?_
  refine va_get (ci := 5) (v := .ref tA_is) (C := RX5) (T := TX5) (N := 25) hx hb hts inlX5 hown hK.1 hP 0 rfl rfl 5 (by decide) (hts _ kw_94) (fun _ h9 => h9) rfl dX5_holdsAt_22 ?_
  refine lv_iconst (v := 1) hx hb dX5_holdsAt_25 (by decide) ?_
  refine x_ialdN hx hb hK hP 1 1 rfl (by omega) (by decide) dX5_holdsAt_26 ?_
  refine lv_iload hx hb dX5_holdsAt_27 (lv_at hl 0 rfl) ?_
  obtain ⟨o_2, E_2, E⟩ := x_nm_ex E
  have J_2 : ∀ (v_1 : Int32), o_2 = v_1 → ∀ (H : Heap) (locs : List Loc) (ls : Array Slot), va_P g.1 vwCl [(tA, .inr (5, [.int (nI t_length), .ref tA_text, .int (nI t_at), .int (nI t_begin), .int t_told, .ref tA_is, .ref tA_doings, .ref tA_doing, .int t_items, .ref tA_row, .ref tA_isKept, .int t_when, .int t_most, .int t_mostAt, .int t_hiss, .ref tA_best, .ref tA_heats, .ref tA_orders, .ref tA_has, .int (nI t_tests), .ref tA_salt, .ref tA_crumbs, .long t_traced, .int t_hasSkin, .int t_hasBend])), (tA_is, .inl (g.2.1 0, 18, .inl t_is)), (tA_row, .inl (g.2.1 0, 80, .inl t_row))] H → va_D A [(tA, .inr (5, [.int (nI t_length), .ref tA_text, .int (nI t_at), .int (nI t_begin), .int t_told, .ref tA_is, .ref tA_doings, .ref tA_doing, .int t_items, .ref tA_row, .ref tA_isKept, .int t_when, .int t_most, .int t_mostAt, .int t_hiss, .ref tA_best, .ref tA_heats, .ref tA_orders, .ref tA_has, .int (nI t_tests), .ref tA_salt, .ref tA_crumbs, .long t_traced, .int t_hasSkin, .int t_hasBend])), (tA_is, .inl (g.2.1 0, 18, .inl t_is)), (tA_row, .inl (g.2.1 0, 80, .inl t_row))] → va_S A s.heap H locs → lv_has ls 6 [(0, .ref tA), (2, .int (nI a2)), (3, .int (nI (20 * a1)))] → W p l e rX5_holdsAt s m args below meth c H locs 0 0 Q (F0 m 38 ls [.int v_1, .int (t_is 1)]) := by
    intro v_1 hE  H locs ls hP hD hS hl
    try rw [hE] at E
    refine lv_isub hx hb dX5_holdsAt_38 ?_
    refine lv_aload_n hx hb dX5_holdsAt_39 rfl (lv_at hl 0 rfl) ?_
    refine va_get (ci := 5) (v := .ref tA_row) (C := RX5) (T := TX5) (N := 25) hx hb hts inlX5 hown hK.1 hP 0 rfl rfl 9 (by decide) (hts _ kw_97) (fun _ h9 => h9) rfl dX5_holdsAt_40 ?_
    refine lv_iload_n hx hb dX5_holdsAt_43 rfl (lv_at hl 2 rfl) ?_
    refine lv_bipush (v := 11) hx hb dX5_holdsAt_44 (by decide) ?_
    refine lv_iadd hx hb dX5_holdsAt_46 ?_
    refine x_eqi (nI_add (20 * a1) 11) ?_
    refine x_ialdN hx hb hK hP 2 ((20 * a1) + 11) rfl (by omega) (by decide) dX5_holdsAt_47 ?_
    refine lv_iload_n hx hb dX5_holdsAt_48 rfl (lv_at hl 1 rfl) ?_
    refine lv_ishr hx hb dX5_holdsAt_49 ?_
    refine lv_iconst (v := 1) hx hb dX5_holdsAt_50 (by decide) ?_
    refine lv_iand hx hb dX5_holdsAt_51 ?_
    refine lv_iconst (v := 1) hx hb dX5_holdsAt_52 (by decide) ?_
    obtain ⟨o_4, E_4, E⟩ := x_nm_ex E
    have J_4 : ∀ (v_3 : Int32), o_4 = v_3 → ∀ (H : Heap) (locs : List Loc) (ls : Array Slot), va_P g.1 vwCl [(tA, .inr (5, [.int (nI t_length), .ref tA_text, .int (nI t_at), .int (nI t_begin), .int t_told, .ref tA_is, .ref tA_doings, .ref tA_doing, .int t_items, .ref tA_row, .ref tA_isKept, .int t_when, .int t_most, .int t_mostAt, .int t_hiss, .ref tA_best, .ref tA_heats, .ref tA_orders, .ref tA_has, .int (nI t_tests), .ref tA_salt, .ref tA_crumbs, .long t_traced, .int t_hasSkin, .int t_hasBend])), (tA_is, .inl (g.2.1 0, 18, .inl t_is)), (tA_row, .inl (g.2.1 0, 80, .inl t_row))] H → va_D A [(tA, .inr (5, [.int (nI t_length), .ref tA_text, .int (nI t_at), .int (nI t_begin), .int t_told, .ref tA_is, .ref tA_doings, .ref tA_doing, .int t_items, .ref tA_row, .ref tA_isKept, .int t_when, .int t_most, .int t_mostAt, .int t_hiss, .ref tA_best, .ref tA_heats, .ref tA_orders, .ref tA_has, .int (nI t_tests), .ref tA_salt, .ref tA_crumbs, .long t_traced, .int t_hasSkin, .int t_hasBend])), (tA_is, .inl (g.2.1 0, 18, .inl t_is)), (tA_row, .inl (g.2.1 0, 80, .inl t_row))] → va_S A s.heap H locs → lv_has ls 6 [] → W p l e rX5_holdsAt s m args below meth c H locs 0 0 Q (F0 m 66 ls [.int v_3, .int ((t_is 1) - v_1)]) := by
      intro v_3 hE  H locs ls hP hD hS hl
      try rw [hE] at E
      refine lv_isub hx hb dX5_holdsAt_66 ?_
      refine lv_istore (lv' := [(5, .int (((t_is 1) - v_1) - v_3))]) hx hb dX5_holdsAt_67 hl (by decide) rfl (fun ls hl => ?_)
      refine lv_iload hx hb dX5_holdsAt_69 (lv_at hl 0 rfl) ?_
      refine lv_iconst (v := 1) hx hb dX5_holdsAt_71 (by decide) ?_
      obtain ⟨o_6, E_6, E⟩ := x_nm_ex E
      have J_6 : ∀ (v_5 : Int32), o_6 = v_5 → ∀ (H : Heap) (locs : List Loc) (ls : Array Slot), va_P g.1 vwCl [(tA, .inr (5, [.int (nI t_length), .ref tA_text, .int (nI t_at), .int (nI t_begin), .int t_told, .ref tA_is, .ref tA_doings, .ref tA_doing, .int t_items, .ref tA_row, .ref tA_isKept, .int t_when, .int t_most, .int t_mostAt, .int t_hiss, .ref tA_best, .ref tA_heats, .ref tA_orders, .ref tA_has, .int (nI t_tests), .ref tA_salt, .ref tA_crumbs, .long t_traced, .int t_hasSkin, .int t_hasBend])), (tA_is, .inl (g.2.1 0, 18, .inl t_is)), (tA_row, .inl (g.2.1 0, 80, .inl t_row))] H → va_D A [(tA, .inr (5, [.int (nI t_length), .ref tA_text, .int (nI t_at), .int (nI t_begin), .int t_told, .ref tA_is, .ref tA_doings, .ref tA_doing, .int t_items, .ref tA_row, .ref tA_isKept, .int t_when, .int t_most, .int t_mostAt, .int t_hiss, .ref tA_best, .ref tA_heats, .ref tA_orders, .ref tA_has, .int (nI t_tests), .ref tA_salt, .ref tA_crumbs, .long t_traced, .int t_hasSkin, .int t_hasBend])), (tA_is, .inl (g.2.1 0, 18, .inl t_is)), (tA_row, .inl (g.2.1 0, 80, .inl t_row))] → va_S A s.heap H locs → lv_has ls 6 [] → W p l e rX5_holdsAt s m args below meth c H locs 0 0 Q (F0 m 81 ls [.int v_5]) := by
        intro v_5 hE  H locs ls hP hD hS hl
        try rw [hE] at E
        exact RET v_5 () H locs _ _ (E.symm.trans hO) rfl hP hD hS dX5_holdsAt_81
      have E := E_6
      refine lv_icmp_ge (tgt := 79) hx hb dX5_holdsAt_72 (by decide) (fun c_7 => ?_) (fun c_7 => ?_)
      · have E := x_pos E c_7
        refine lv_iload hx hb dX5_holdsAt_79 (lv_at hl 0 rfl) ?_
        exact J_6 (((t_is 1) - v_1) - v_3) E  H locs ls hP hD hS (lv_sub hl [] rfl)
      · have E := x_neg E c_7
        refine lv_iconst (v := 1) hx hb dX5_holdsAt_75 (by decide) ?_
        refine lv_goto (tgt := 81) hx hb dX5_holdsAt_76 (by decide) ?_
        exact J_6 1 E  H locs ls hP hD hS (lv_sub hl [] rfl)
    have E := E_4
    refine x_icmp_neI (tgt := 65) hx hb dX5_holdsAt_53 (by decide) (fun c_8 => ?_) (fun c_8 => ?_)
    · have E := x_neg E c_8
      refine lv_iconst (v := 0) hx hb dX5_holdsAt_65 (by decide) ?_
      exact J_4 0 E  H locs ls hP hD hS (lv_sub hl [] rfl)
    · have E := x_pos E c_8
      refine lv_aload_n hx hb dX5_holdsAt_56 rfl (lv_at hl 0 rfl) ?_
      refine va_get (ci := 5) (v := .ref tA_is) (C := RX5) (T := TX5) (N := 25) hx hb hts inlX5 hown hK.1 hP 0 rfl rfl 5 (by decide) (hts _ kw_94) (fun _ h9 => h9) rfl dX5_holdsAt_57 ?_
      refine lv_iconst (v := 5) hx hb dX5_holdsAt_60 (by decide) ?_
      refine x_ialdN hx hb hK hP 1 5 rfl (by omega) (by decide) dX5_holdsAt_61 ?_
      refine lv_goto (tgt := 66) hx hb dX5_holdsAt_62 (by decide) ?_
      exact J_4 (t_is 5) E  H locs ls hP hD hS (lv_sub hl [] rfl)
  have E := E_2
  refine lv_if_le (tgt := 37) hx hb dX5_holdsAt_29 (by decide) (fun c_9 => ?_) (fun c_9 => ?_)
  · have E := x_pos E c_9
    refine lv_iconst (v := 0) hx hb dX5_holdsAt_37 (by decide) ?_
    exact J_2 0 E  H locs ls hP hD hS (lv_sub hl [2, 4, 1] rfl)
  · have E := x_neg E c_9
    refine lv_iload hx hb dX5_holdsAt_32 (lv_at hl 0 rfl) ?_
    refine lv_goto (tgt := 38) hx hb dX5_holdsAt_34 (by decide) ?_
    exact J_2 (((t_row ((20 * a1) + a2)) - 150) / 2) E  H locs ls hP hD hS (lv_sub hl [2, 4, 1] rfl)
abbrev rX5_pulls : Room := { frames := 0, cells := 0, slots := 0, locals := 0 }
theorem vX5_pulls : yX5_pulls.cls = RX5 ∧ yX5_pulls.cls ≠ "java/lang/invoke/MethodHandle" ∧ yX5_pulls.cls ≠ "java/lang/invoke/VarHandle" ∧ (parseMethodDescriptor yX5_pulls.desc).map (fun d => d.parameters.length) = some 2 := by decide +kernel
abbrev wX5_pulls : List Cond := Cond.code yX5_pulls cX5_pulls 3 (some .int) :: wsL_law
def F_X5_pulls (t_is : Nat → Int32) (a1 : Int32) (a2 : Int32) : Int32 :=
  x_nm (α := Int32) (if a2 = (t_is 7) then t_is 8 else 0) fun u_2 => (a1 * (t_is 0)) + u_2
set_option maxHeartbeats 4000000 in
set_option maxRecDepth 100000 in
theorem m_X5_pulls (l : Launch) (g : x_G) (tA tA_is tA_text tA_doings tA_doing tA_row tA_isKept tA_best tA_heats tA_orders tA_has tA_salt tA_crumbs : Nat) (t_length : Nat) (t_at : Nat) (t_begin : Nat) (t_told : Int32) (t_items : Int32) (t_when : Int32) (t_most : Int32) (t_mostAt : Int32) (t_hiss : Int32) (t_tests : Nat) (t_traced : Int64) (t_hasSkin : Int32) (t_hasBend : Int32) (t_is : Nat → Int32) (a1 : Int32) (a2 : Int32) : x_MetI l yX5_pulls wX5_pulls rX5_pulls g [.ref tA, .int a1, .int a2] [(tA, .inr (5, [.int (nI t_length), .ref tA_text, .int (nI t_at), .int (nI t_begin), .int t_told, .ref tA_is, .ref tA_doings, .ref tA_doing, .int t_items, .ref tA_row, .ref tA_isKept, .int t_when, .int t_most, .int t_mostAt, .int t_hiss, .ref tA_best, .ref tA_heats, .ref tA_orders, .ref tA_has, .int (nI t_tests), .ref tA_salt, .ref tA_crumbs, .long t_traced, .int t_hasSkin, .int t_hasBend])), (tA_is, .inl (g.2.1 0, 18, .inl t_is))] (fun (r : Int32) (u : Unit) => r = F_X5_pulls t_is a1 a2) (fun _ => [(tA, .inr (5, [.int (nI t_length), .ref tA_text, .int (nI t_at), .int (nI t_begin), .int t_told, .ref tA_is, .ref tA_doings, .ref tA_doing, .int t_items, .ref tA_row, .ref tA_isKept, .int t_when, .int t_most, .int t_mostAt, .int t_hiss, .ref tA_best, .ref tA_heats, .ref tA_orders, .ref tA_has, .int (nI t_tests), .ref tA_salt, .ref tA_crumbs, .long t_traced, .int t_hasSkin, .int t_hasBend])), (tA_is, .inl (g.2.1 0, 18, .inl t_is))]) := by
  refine x_startI (cc := cX5_pulls) (maxL := 3) (by decide) rfl (Nat.le_of_ble_eq_true rfl) ?_
  intro p e s m args below meth c Q A ls H locs hx hb hml hown hts hK hX hP hD hS hA hl RET
  have hown : s.vm.findClass RX5 = some m.cls := hown
  have hl : lv_has ls 3 [(0, .ref tA), (1, .int a1), (2, .int a2)] := hl
  obtain ⟨o_0, hO⟩ : ∃ z, z = F_X5_pulls t_is a1 a2 := ⟨_, rfl⟩
  have E := hO
  rw [F_X5_pulls.eq_1] at E
  refine lv_iload_n hx hb dX5_pulls_0 rfl (lv_at hl 1 rfl) ?_
  refine lv_aload_n hx hb dX5_pulls_1 rfl (lv_at hl 0 rfl) ?_
  refine va_get (ci := 5) (v := .ref tA_is) (C := RX5) (T := TX5) (N := 25) hx hb hts inlX5 hown hK.1 hP 0 rfl rfl 5 (by decide) (hts _ kw_94) (fun _ h9 => h9) rfl dX5_pulls_2 ?_
  refine lv_iconst (v := 0) hx hb dX5_pulls_5 (by decide) ?_
  refine x_ialdN hx hb hK hP 1 0 rfl (by omega) (by decide) dX5_pulls_6 ?_
  refine lv_imul hx hb dX5_pulls_7 ?_
  refine lv_iload_n hx hb dX5_pulls_8 rfl (lv_at hl 2 rfl) ?_
  refine lv_aload_n hx hb dX5_pulls_9 rfl (lv_at hl 0 rfl) ?_
  refine va_get (ci := 5) (v := .ref tA_is) (C := RX5) (T := TX5) (N := 25) hx hb hts inlX5 hown hK.1 hP 0 rfl rfl 5 (by decide) (hts _ kw_94) (fun _ h9 => h9) rfl dX5_pulls_10 ?_
  refine lv_bipush (v := 7) hx hb dX5_pulls_13 (by decide) ?_
  refine x_ialdN hx hb hK hP 1 7 rfl (by omega) (by decide) dX5_pulls_15 ?_
  obtain ⟨o_2, E_2, E⟩ := x_nm_ex E
  have J_2 : ∀ (v_1 : Int32), o_2 = v_1 → ∀ (H : Heap) (locs : List Loc) (ls : Array Slot), va_P g.1 vwCl [(tA, .inr (5, [.int (nI t_length), .ref tA_text, .int (nI t_at), .int (nI t_begin), .int t_told, .ref tA_is, .ref tA_doings, .ref tA_doing, .int t_items, .ref tA_row, .ref tA_isKept, .int t_when, .int t_most, .int t_mostAt, .int t_hiss, .ref tA_best, .ref tA_heats, .ref tA_orders, .ref tA_has, .int (nI t_tests), .ref tA_salt, .ref tA_crumbs, .long t_traced, .int t_hasSkin, .int t_hasBend])), (tA_is, .inl (g.2.1 0, 18, .inl t_is))] H → va_D A [(tA, .inr (5, [.int (nI t_length), .ref tA_text, .int (nI t_at), .int (nI t_begin), .int t_told, .ref tA_is, .ref tA_doings, .ref tA_doing, .int t_items, .ref tA_row, .ref tA_isKept, .int t_when, .int t_most, .int t_mostAt, .int t_hiss, .ref tA_best, .ref tA_heats, .ref tA_orders, .ref tA_has, .int (nI t_tests), .ref tA_salt, .ref tA_crumbs, .long t_traced, .int t_hasSkin, .int t_hasBend])), (tA_is, .inl (g.2.1 0, 18, .inl t_is))] → va_S A s.heap H locs → lv_has ls 3 [] → W p l e rX5_pulls s m args below meth c H locs 0 0 Q (F0 m 30 ls [.int v_1, .int (a1 * (t_is 0))]) := by
    intro v_1 hE  H locs ls hP hD hS hl
    try rw [hE] at E
    refine lv_iadd hx hb dX5_pulls_30 ?_
    exact RET ((a1 * (t_is 0)) + v_1) () H locs _ _ (E.symm.trans hO) rfl hP hD hS dX5_pulls_31
  have E := E_2
  refine x_icmp_neI (tgt := 29) hx hb dX5_pulls_16 (by decide) (fun c_3 => ?_) (fun c_3 => ?_)
  · have E := x_neg E c_3
    refine lv_iconst (v := 0) hx hb dX5_pulls_29 (by decide) ?_
    exact J_2 0 E  H locs ls hP hD hS (lv_sub hl [] rfl)
  · have E := x_pos E c_3
    refine lv_aload_n hx hb dX5_pulls_19 rfl (lv_at hl 0 rfl) ?_
    refine va_get (ci := 5) (v := .ref tA_is) (C := RX5) (T := TX5) (N := 25) hx hb hts inlX5 hown hK.1 hP 0 rfl rfl 5 (by decide) (hts _ kw_94) (fun _ h9 => h9) rfl dX5_pulls_20 ?_
    refine lv_bipush (v := 8) hx hb dX5_pulls_23 (by decide) ?_
    refine x_ialdN hx hb hK hP 1 8 rfl (by omega) (by decide) dX5_pulls_25 ?_
    refine lv_goto (tgt := 30) hx hb dX5_pulls_26 (by decide) ?_
    exact J_2 (t_is 8) E  H locs ls hP hD hS (lv_sub hl [] rfl)
abbrev rX5_second : Room := { frames := 1, cells := 0, slots := 0, locals := 25 }
theorem vX5_second : yX5_second.cls = RX5 ∧ yX5_second.cls ≠ "java/lang/invoke/MethodHandle" ∧ yX5_second.cls ≠ "java/lang/invoke/VarHandle" ∧ (parseMethodDescriptor yX5_second.desc).map (fun d => d.parameters.length) = some 3 := by decide +kernel
abbrev wX5_second : List Cond := Cond.code yX5_second cX5_second 11 none :: wsL_law
def F_X5_second_L459 (t_is : Nat → Int32) (a1 : Nat) (z_19 : Int32) : Nat → Nat → (Nat → Int32) → (Nat → Int32)
  | 0, k9_30, t_row_31 => t_row_31
  | n_32 + 1, k9_30, t_row_31 => if 4 ≤ k9_30 then t_row_31 else x_nm (α := (Nat → Int32)) (if (t_row_31 ((20 * a1) + 13)) = 0 then x_nm (F_X5_pulls t_is z_19 (nI k9_30)) fun z_37 => x_nm (F_X5_holdsAt t_is t_row_31 a1 k9_30) fun z_40 => if z_37 ≤ z_40 then t_row_31 else x_nm (upd t_row_31 ((20 * a1) + 13) 1) fun t_row_44 => x_nm (upd t_row_44 ((20 * a1) + 14) (nI k9_30)) fun t_row_45 => t_row_45 else t_row_31) fun u_35 => F_X5_second_L459 t_is a1 z_19 n_32 (k9_30 + 1) u_35
def F_X5_second_L339 (a1 : Nat) : Nat → Nat → (Nat → Int32) → (Nat → Int32)
  | 0, k8_46, t_row_47 => t_row_47
  | n_48 + 1, k8_46, t_row_47 => if 4 ≤ k8_46 then t_row_47 else x_nm (α := Int32) (if (((t_row_47 ((20 * a1) + k8_46)) - 120) / 10) ≤ 0 then 0 else ((t_row_47 ((20 * a1) + k8_46)) - 120) / 10) fun u_51 => x_nm (α := Int32) (if ((t_row_47 (((20 * a1) + 5) + k8_46)) + u_51) ≤ 999 then (t_row_47 (((20 * a1) + 5) + k8_46)) + u_51 else 999) fun u_53 => x_nm (upd t_row_47 (((20 * a1) + 5) + k8_46) u_53) fun t_row_54 => F_X5_second_L339 a1 n_48 (k8_46 + 1) t_row_54
def F_X5_second_L15 (a1 : Nat) (a2 : Int32) (a3 : Int32) : Nat → Int32 → Int32 → Nat → (Nat → Int32) → Int32 × Int32 × (Nat → Int32)
  | 0, l5_62, l6_63, k7_64, t_row_65 => (l5_62, l6_63, t_row_65)
  | n_66 + 1, l5_62, l6_63, k7_64, t_row_65 => if 4 ≤ k7_64 then (l5_62, l6_63, t_row_65) else x_nm (α := Int32) (if a3 = 0 then if (nI k7_64) = (t_row_65 ((20 * a1) + 16)) then (t_row_65 ((20 * a1) + k7_64)) + ((a2 - (t_row_65 ((20 * a1) + k7_64))) / 4) else (t_row_65 ((20 * a1) + k7_64)) - (((t_row_65 ((20 * a1) + k7_64)) - 20) / 16) else (t_row_65 ((20 * a1) + k7_64)) + ((a2 - (t_row_65 ((20 * a1) + k7_64))) / 4)) fun u_69 => x_nm (upd t_row_65 ((20 * a1) + k7_64) u_69) fun t_row_70 => x_nm (α := Int32) (if k7_64 = 0 then t_row_70 ((20 * a1) + k7_64) else if (t_row_70 ((20 * a1) + k7_64)) ≤ l6_63 then l6_63 else t_row_70 ((20 * a1) + k7_64)) fun u_72 => F_X5_second_L15 a1 a2 a3 n_66 (l5_62 + (t_row_70 ((20 * a1) + k7_64))) u_72 (k7_64 + 1) t_row_70
def F_X5_second (t_is : Nat → Int32) (t_row : Nat → Int32) (a1 : Nat) (a2 : Int32) (a3 : Int32) : (Nat → Int32) :=
  x_nm (α := Int32 × Int32 × (Nat → Int32)) (F_X5_second_L15 a1 a2 a3 (4 + 1) 0 0 0 t_row) fun u_4 => x_nm (upd u_4.2.2 ((20 * a1) + 4) ((u_4.2.2 ((20 * a1) + 4)) + ((u_4.1 - (4 * (u_4.2.2 ((20 * a1) + 4)))) / (8 * (t_is 0))))) fun t_row_5 => x_nm (α := Int32) (if (t_row_5 ((20 * a1) + 4)) ≤ u_4.2.1 then u_4.2.1 else t_row_5 ((20 * a1) + 4)) fun u_7 => x_nm (α := Int32) (if u_7 ≤ 100 then 0 else if (t_row_5 ((20 * a1) + 9)) ≤ 0 then 0 else u_7 - 100) fun u_9 => x_nm (upd t_row_5 ((20 * a1) + 15) u_9) fun t_row_10 => x_nm (α := Int32) (if (t_row_10 ((20 * a1) + 4)) ≤ 60 then 0 else (t_row_10 ((20 * a1) + 10)) / 3) fun u_12 => x_nm (α := Int32) (if (t_row_10 ((20 * a1) + 9)) ≤ (((t_row_10 ((20 * a1) + 15)) / 20) + u_12) then 0 else (t_row_10 ((20 * a1) + 9)) - (((t_row_10 ((20 * a1) + 15)) / 20) + u_12)) fun u_14 => x_nm (upd t_row_10 ((20 * a1) + 9) u_14) fun t_row_15 => x_nm (α := (Nat → Int32)) (F_X5_second_L339 a1 (4 + 1) 0 t_row_15) fun u_17 => x_nm (upd u_17 ((20 * a1) + 12) ((u_17 ((20 * a1) + 12)) + 1)) fun t_row_18 => x_nm (F_X5_press t_is t_row_18 a1) fun z_19 => x_nm (upd t_row_18 ((20 * a1) + 17) z_19) fun t_row_22 => x_nm (α := (Nat → Int32)) (F_X5_second_L459 t_is a1 z_19 (4 + 1) 0 t_row_22) fun u_24 => x_nm (α := Int32) (if (u_24 ((20 * a1) + 13)) = 0 then if ((z_19 * (t_is 0)) / 2) ≤ (t_is 4) then u_24 ((20 * a1) + 13) else 2 else u_24 ((20 * a1) + 13)) fun u_26 => x_nm (upd u_24 ((20 * a1) + 13) u_26) fun t_row_27 => t_row_27
set_option maxHeartbeats 4000000 in
set_option maxRecDepth 100000 in
theorem m_X5_second (l : Launch) (g : x_G) (tA tA_is tA_row tA_text tA_doings tA_doing tA_isKept tA_best tA_heats tA_orders tA_has tA_salt tA_crumbs : Nat) (t_length : Nat) (t_at : Nat) (t_begin : Nat) (t_told : Int32) (t_items : Int32) (t_when : Int32) (t_most : Int32) (t_mostAt : Int32) (t_hiss : Int32) (t_tests : Nat) (t_traced : Int64) (t_hasSkin : Int32) (t_hasBend : Int32) (t_is : Nat → Int32) (t_row : Nat → Int32) (a1 : Nat) (a2 : Int32) (a3 : Int32) (h_0 : a1 < 4) (h_1 : ¬ 8 * t_is 0 = 0) : x_MetV l yX5_second wX5_second rX5_second g [.ref tA, .int (nI a1), .int a2, .int a3] [(tA, .inr (5, [.int (nI t_length), .ref tA_text, .int (nI t_at), .int (nI t_begin), .int t_told, .ref tA_is, .ref tA_doings, .ref tA_doing, .int t_items, .ref tA_row, .ref tA_isKept, .int t_when, .int t_most, .int t_mostAt, .int t_hiss, .ref tA_best, .ref tA_heats, .ref tA_orders, .ref tA_has, .int (nI t_tests), .ref tA_salt, .ref tA_crumbs, .long t_traced, .int t_hasSkin, .int t_hasBend])), (tA_is, .inl (g.2.1 0, 18, .inl t_is)), (tA_row, .inl (g.2.1 0, 80, .inl t_row))] (fun u : (Nat → Int32) => u = F_X5_second t_is t_row a1 a2 a3) (fun u => [(tA, .inr (5, [.int (nI t_length), .ref tA_text, .int (nI t_at), .int (nI t_begin), .int t_told, .ref tA_is, .ref tA_doings, .ref tA_doing, .int t_items, .ref tA_row, .ref tA_isKept, .int t_when, .int t_most, .int t_mostAt, .int t_hiss, .ref tA_best, .ref tA_heats, .ref tA_orders, .ref tA_has, .int (nI t_tests), .ref tA_salt, .ref tA_crumbs, .long t_traced, .int t_hasSkin, .int t_hasBend])), (tA_is, .inl (g.2.1 0, 18, .inl t_is)), (tA_row, .inl (g.2.1 0, 80, .inl u))]) := by
  refine x_startV (cc := cX5_second) (maxL := 11) (by decide) rfl (Nat.le_of_ble_eq_true rfl) ?_
  intro p e s m args below meth c Q A ls H locs hx hb hml hown hts hK hX hP hD hS hA hl RET
  have hown : s.vm.findClass RX5 = some m.cls := hown
  have hl : lv_has ls 11 [(0, .ref tA), (1, .int (nI a1)), (2, .int a2), (3, .int a3)] := hl
  obtain ⟨o_0, hO⟩ : ∃ z, z = F_X5_second t_is t_row a1 a2 a3 := ⟨_, rfl⟩
  have E := hO
  rw [F_X5_second.eq_1] at E
  refine lv_bipush (v := 20) hx hb dX5_second_0 (by decide) ?_
  refine lv_iload_n hx hb dX5_second_2 rfl (lv_at hl 1 rfl) ?_
  refine lv_imul hx hb dX5_second_3 ?_
  refine x_eqi (pk_mul 20 a1) ?_
  refine lv_istore (lv' := [(4, .int (nI (20 * a1))), (0, .ref tA), (1, .int (nI a1)), (2, .int a2), (3, .int a3)]) hx hb dX5_second_4 hl (by decide) rfl (fun ls hl => ?_)
  refine lv_iconst (v := 0) hx hb dX5_second_6 (by decide) ?_
  refine lv_istore (lv' := [(5, .int 0), (4, .int (nI (20 * a1))), (0, .ref tA), (1, .int (nI a1)), (2, .int a2), (3, .int a3)]) hx hb dX5_second_7 hl (by decide) rfl (fun ls hl => ?_)
  refine lv_iconst (v := 0) hx hb dX5_second_9 (by decide) ?_
  refine lv_istore (lv' := [(6, .int 0), (5, .int 0), (4, .int (nI (20 * a1))), (0, .ref tA), (1, .int (nI a1)), (2, .int a2), (3, .int a3)]) hx hb dX5_second_10 hl (by decide) rfl (fun ls hl => ?_)
  refine lv_iconst (v := 0) hx hb dX5_second_12 (by decide) ?_
  refine lv_istore (lv' := [(7, .int 0), (6, .int 0), (5, .int 0), (4, .int (nI (20 * a1))), (0, .ref tA), (1, .int (nI a1)), (2, .int a2), (3, .int a3)]) hx hb dX5_second_13 hl (by decide) rfl (fun ls hl => ?_)
  obtain ⟨o_4, E_4, E⟩ := x_nm_ex E
  have J_4 : ∀ (l5_1 : Int32) (l6_2 : Int32) (t_row_3 : Nat → Int32), o_4 = (l5_1, l6_2, t_row_3) → ∀ (H : Heap) (locs : List Loc) (ls : Array Slot), va_P g.1 vwCl [(tA, .inr (5, [.int (nI t_length), .ref tA_text, .int (nI t_at), .int (nI t_begin), .int t_told, .ref tA_is, .ref tA_doings, .ref tA_doing, .int t_items, .ref tA_row, .ref tA_isKept, .int t_when, .int t_most, .int t_mostAt, .int t_hiss, .ref tA_best, .ref tA_heats, .ref tA_orders, .ref tA_has, .int (nI t_tests), .ref tA_salt, .ref tA_crumbs, .long t_traced, .int t_hasSkin, .int t_hasBend])), (tA_is, .inl (g.2.1 0, 18, .inl t_is)), (tA_row, .inl (g.2.1 0, 80, .inl t_row_3))] H → va_D A [(tA, .inr (5, [.int (nI t_length), .ref tA_text, .int (nI t_at), .int (nI t_begin), .int t_told, .ref tA_is, .ref tA_doings, .ref tA_doing, .int t_items, .ref tA_row, .ref tA_isKept, .int t_when, .int t_most, .int t_mostAt, .int t_hiss, .ref tA_best, .ref tA_heats, .ref tA_orders, .ref tA_has, .int (nI t_tests), .ref tA_salt, .ref tA_crumbs, .long t_traced, .int t_hasSkin, .int t_hasBend])), (tA_is, .inl (g.2.1 0, 18, .inl t_is)), (tA_row, .inl (g.2.1 0, 80, .inl t_row_3))] → va_S A s.heap H locs → lv_has ls 11 [(0, .ref tA), (1, .int (nI a1)), (4, .int (nI (20 * a1))), (5, .int l5_1), (6, .int l6_2)] → W p l e rX5_second s m args below meth c H locs 0 0 Q (F0 m 143 ls []) := by
    intro l5_1 l6_2 t_row_3 hE  H locs ls hP hD hS hl
    try rw [hE] at E
    refine lv_aload_n hx hb dX5_second_143 rfl (lv_at hl 0 rfl) ?_
    refine va_get (ci := 5) (v := .ref tA_row) (C := RX5) (T := TX5) (N := 25) hx hb hts inlX5 hown hK.1 hP 0 rfl rfl 9 (by decide) (hts _ kw_97) (fun _ h9 => h9) rfl dX5_second_144 ?_
    refine lv_iload hx hb dX5_second_147 (lv_at hl 2 rfl) ?_
    refine lv_iconst (v := 4) hx hb dX5_second_149 (by decide) ?_
    refine lv_iadd hx hb dX5_second_150 ?_
    refine x_eqi (nI_add (20 * a1) 4) ?_
    refine lv_dup2_11 hx hb dX5_second_151 rfl rfl ?_
    refine x_ialdN hx hb hK hP 2 ((20 * a1) + 4) rfl (by omega) (by decide) dX5_second_152 ?_
    refine lv_iload hx hb dX5_second_153 (lv_at hl 3 rfl) ?_
    refine lv_iconst (v := 4) hx hb dX5_second_155 (by decide) ?_
    refine lv_aload_n hx hb dX5_second_156 rfl (lv_at hl 0 rfl) ?_
    refine va_get (ci := 5) (v := .ref tA_row) (C := RX5) (T := TX5) (N := 25) hx hb hts inlX5 hown hK.1 hP 0 rfl rfl 9 (by decide) (hts _ kw_97) (fun _ h9 => h9) rfl dX5_second_157 ?_
    refine lv_iload hx hb dX5_second_160 (lv_at hl 2 rfl) ?_
    refine lv_iconst (v := 4) hx hb dX5_second_162 (by decide) ?_
    refine lv_iadd hx hb dX5_second_163 ?_
    refine x_eqi (nI_add (20 * a1) 4) ?_
    refine x_ialdN hx hb hK hP 2 ((20 * a1) + 4) rfl (by omega) (by decide) dX5_second_164 ?_
    refine lv_imul hx hb dX5_second_165 ?_
    refine lv_isub hx hb dX5_second_166 ?_
    refine lv_bipush (v := 8) hx hb dX5_second_167 (by decide) ?_
    refine lv_aload_n hx hb dX5_second_169 rfl (lv_at hl 0 rfl) ?_
    refine va_get (ci := 5) (v := .ref tA_is) (C := RX5) (T := TX5) (N := 25) hx hb hts inlX5 hown hK.1 hP 0 rfl rfl 5 (by decide) (hts _ kw_94) (fun _ h9 => h9) rfl dX5_second_170 ?_
    refine lv_iconst (v := 0) hx hb dX5_second_173 (by decide) ?_
    refine x_ialdN hx hb hK hP 1 0 rfl (by omega) (by decide) dX5_second_174 ?_
    refine lv_imul hx hb dX5_second_175 ?_
    refine lv_idiv hx hb dX5_second_176 (by assumption) ?_
    refine lv_iadd hx hb dX5_second_177 ?_
    refine x_iastN hx hb hK hP hD hS 2 ((20 * a1) + 4) rfl (by omega) (by decide) dX5_second_178 (fun t_row_5 H locs hf hP hD hS => ?_)
    have hP : va_P g.1 vwCl [(tA, .inr (5, [.int (nI t_length), .ref tA_text, .int (nI t_at), .int (nI t_begin), .int t_told, .ref tA_is, .ref tA_doings, .ref tA_doing, .int t_items, .ref tA_row, .ref tA_isKept, .int t_when, .int t_most, .int t_mostAt, .int t_hiss, .ref tA_best, .ref tA_heats, .ref tA_orders, .ref tA_has, .int (nI t_tests), .ref tA_salt, .ref tA_crumbs, .long t_traced, .int t_hasSkin, .int t_hasBend])), (tA_is, .inl (g.2.1 0, 18, .inl t_is)), (tA_row, .inl (g.2.1 0, 80, .inl t_row_5))] H := hP
    have hD : va_D A [(tA, .inr (5, [.int (nI t_length), .ref tA_text, .int (nI t_at), .int (nI t_begin), .int t_told, .ref tA_is, .ref tA_doings, .ref tA_doing, .int t_items, .ref tA_row, .ref tA_isKept, .int t_when, .int t_most, .int t_mostAt, .int t_hiss, .ref tA_best, .ref tA_heats, .ref tA_orders, .ref tA_has, .int (nI t_tests), .ref tA_salt, .ref tA_crumbs, .long t_traced, .int t_hasSkin, .int t_hasBend])), (tA_is, .inl (g.2.1 0, 18, .inl t_is)), (tA_row, .inl (g.2.1 0, 80, .inl t_row_5))] := hD
    have E := x_nm_eq E hf
    refine lv_aload_n hx hb dX5_second_179 rfl (lv_at hl 0 rfl) ?_
    refine va_get (ci := 5) (v := .ref tA_row) (C := RX5) (T := TX5) (N := 25) hx hb hts inlX5 hown hK.1 hP 0 rfl rfl 9 (by decide) (hts _ kw_97) (fun _ h9 => h9) rfl dX5_second_180 ?_
    refine lv_iload hx hb dX5_second_183 (lv_at hl 2 rfl) ?_
    refine lv_iconst (v := 4) hx hb dX5_second_185 (by decide) ?_
    refine lv_iadd hx hb dX5_second_186 ?_
    refine x_eqi (nI_add (20 * a1) 4) ?_
    refine x_ialdN hx hb hK hP 2 ((20 * a1) + 4) rfl (by omega) (by decide) dX5_second_187 ?_
    refine lv_iload hx hb dX5_second_188 (lv_at hl 4 rfl) ?_
    obtain ⟨o_7, E_7, E⟩ := x_nm_ex E
    have J_7 : ∀ (v_6 : Int32), o_7 = v_6 → ∀ (H : Heap) (locs : List Loc) (ls : Array Slot), va_P g.1 vwCl [(tA, .inr (5, [.int (nI t_length), .ref tA_text, .int (nI t_at), .int (nI t_begin), .int t_told, .ref tA_is, .ref tA_doings, .ref tA_doing, .int t_items, .ref tA_row, .ref tA_isKept, .int t_when, .int t_most, .int t_mostAt, .int t_hiss, .ref tA_best, .ref tA_heats, .ref tA_orders, .ref tA_has, .int (nI t_tests), .ref tA_salt, .ref tA_crumbs, .long t_traced, .int t_hasSkin, .int t_hasBend])), (tA_is, .inl (g.2.1 0, 18, .inl t_is)), (tA_row, .inl (g.2.1 0, 80, .inl t_row_5))] H → va_D A [(tA, .inr (5, [.int (nI t_length), .ref tA_text, .int (nI t_at), .int (nI t_begin), .int t_told, .ref tA_is, .ref tA_doings, .ref tA_doing, .int t_items, .ref tA_row, .ref tA_isKept, .int t_when, .int t_most, .int t_mostAt, .int t_hiss, .ref tA_best, .ref tA_heats, .ref tA_orders, .ref tA_has, .int (nI t_tests), .ref tA_salt, .ref tA_crumbs, .long t_traced, .int t_hasSkin, .int t_hasBend])), (tA_is, .inl (g.2.1 0, 18, .inl t_is)), (tA_row, .inl (g.2.1 0, 80, .inl t_row_5))] → va_S A s.heap H locs → lv_has ls 11 [(0, .ref tA), (1, .int (nI a1)), (4, .int (nI (20 * a1)))] → W p l e rX5_second s m args below meth c H locs 0 0 Q (F0 m 207 ls [.int v_6]) := by
      intro v_6 hE  H locs ls hP hD hS hl
      try rw [hE] at E
      refine lv_istore (lv' := [(6, .int v_6), (0, .ref tA), (1, .int (nI a1)), (4, .int (nI (20 * a1)))]) hx hb dX5_second_207 hl (by decide) rfl (fun ls hl => ?_)
      refine lv_aload_n hx hb dX5_second_209 rfl (lv_at hl 1 rfl) ?_
      refine va_get (ci := 5) (v := .ref tA_row) (C := RX5) (T := TX5) (N := 25) hx hb hts inlX5 hown hK.1 hP 0 rfl rfl 9 (by decide) (hts _ kw_97) (fun _ h9 => h9) rfl dX5_second_210 ?_
      refine lv_iload hx hb dX5_second_213 (lv_at hl 3 rfl) ?_
      refine lv_bipush (v := 15) hx hb dX5_second_215 (by decide) ?_
      refine lv_iadd hx hb dX5_second_217 ?_
      refine x_eqi (nI_add (20 * a1) 15) ?_
      refine lv_iload hx hb dX5_second_218 (lv_at hl 0 rfl) ?_
      refine lv_bipush (v := 100) hx hb dX5_second_220 (by decide) ?_
      obtain ⟨o_9, E_9, E⟩ := x_nm_ex E
      have J_9 : ∀ (v_8 : Int32), o_9 = v_8 → ∀ (H : Heap) (locs : List Loc) (ls : Array Slot), va_P g.1 vwCl [(tA, .inr (5, [.int (nI t_length), .ref tA_text, .int (nI t_at), .int (nI t_begin), .int t_told, .ref tA_is, .ref tA_doings, .ref tA_doing, .int t_items, .ref tA_row, .ref tA_isKept, .int t_when, .int t_most, .int t_mostAt, .int t_hiss, .ref tA_best, .ref tA_heats, .ref tA_orders, .ref tA_has, .int (nI t_tests), .ref tA_salt, .ref tA_crumbs, .long t_traced, .int t_hasSkin, .int t_hasBend])), (tA_is, .inl (g.2.1 0, 18, .inl t_is)), (tA_row, .inl (g.2.1 0, 80, .inl t_row_5))] H → va_D A [(tA, .inr (5, [.int (nI t_length), .ref tA_text, .int (nI t_at), .int (nI t_begin), .int t_told, .ref tA_is, .ref tA_doings, .ref tA_doing, .int t_items, .ref tA_row, .ref tA_isKept, .int t_when, .int t_most, .int t_mostAt, .int t_hiss, .ref tA_best, .ref tA_heats, .ref tA_orders, .ref tA_has, .int (nI t_tests), .ref tA_salt, .ref tA_crumbs, .long t_traced, .int t_hasSkin, .int t_hasBend])), (tA_is, .inl (g.2.1 0, 18, .inl t_is)), (tA_row, .inl (g.2.1 0, 80, .inl t_row_5))] → va_S A s.heap H locs → lv_has ls 11 [(0, .ref tA), (1, .int (nI a1)), (4, .int (nI (20 * a1)))] → W p l e rX5_second s m args below meth c H locs 0 0 Q (F0 m 247 ls [.int v_8, .int (nI ((20 * a1) + 15)), .ref tA_row]) := by
        intro v_8 hE  H locs ls hP hD hS hl
        try rw [hE] at E
        refine x_iastN hx hb hK hP hD hS 2 ((20 * a1) + 15) rfl (by omega) (by decide) dX5_second_247 (fun t_row_10 H locs hf hP hD hS => ?_)
        have hP : va_P g.1 vwCl [(tA, .inr (5, [.int (nI t_length), .ref tA_text, .int (nI t_at), .int (nI t_begin), .int t_told, .ref tA_is, .ref tA_doings, .ref tA_doing, .int t_items, .ref tA_row, .ref tA_isKept, .int t_when, .int t_most, .int t_mostAt, .int t_hiss, .ref tA_best, .ref tA_heats, .ref tA_orders, .ref tA_has, .int (nI t_tests), .ref tA_salt, .ref tA_crumbs, .long t_traced, .int t_hasSkin, .int t_hasBend])), (tA_is, .inl (g.2.1 0, 18, .inl t_is)), (tA_row, .inl (g.2.1 0, 80, .inl t_row_10))] H := hP
        have hD : va_D A [(tA, .inr (5, [.int (nI t_length), .ref tA_text, .int (nI t_at), .int (nI t_begin), .int t_told, .ref tA_is, .ref tA_doings, .ref tA_doing, .int t_items, .ref tA_row, .ref tA_isKept, .int t_when, .int t_most, .int t_mostAt, .int t_hiss, .ref tA_best, .ref tA_heats, .ref tA_orders, .ref tA_has, .int (nI t_tests), .ref tA_salt, .ref tA_crumbs, .long t_traced, .int t_hasSkin, .int t_hasBend])), (tA_is, .inl (g.2.1 0, 18, .inl t_is)), (tA_row, .inl (g.2.1 0, 80, .inl t_row_10))] := hD
        have E := x_nm_eq E hf
        refine lv_aload_n hx hb dX5_second_248 rfl (lv_at hl 0 rfl) ?_
        refine va_get (ci := 5) (v := .ref tA_row) (C := RX5) (T := TX5) (N := 25) hx hb hts inlX5 hown hK.1 hP 0 rfl rfl 9 (by decide) (hts _ kw_97) (fun _ h9 => h9) rfl dX5_second_249 ?_
        refine lv_iload hx hb dX5_second_252 (lv_at hl 2 rfl) ?_
        refine lv_bipush (v := 15) hx hb dX5_second_254 (by decide) ?_
        refine lv_iadd hx hb dX5_second_256 ?_
        refine x_eqi (nI_add (20 * a1) 15) ?_
        refine x_ialdN hx hb hK hP 2 ((20 * a1) + 15) rfl (by omega) (by decide) dX5_second_257 ?_
        refine lv_bipush (v := 20) hx hb dX5_second_258 (by decide) ?_
        refine lv_idiv hx hb dX5_second_260 (by decide) ?_
        refine lv_aload_n hx hb dX5_second_261 rfl (lv_at hl 0 rfl) ?_
        refine va_get (ci := 5) (v := .ref tA_row) (C := RX5) (T := TX5) (N := 25) hx hb hts inlX5 hown hK.1 hP 0 rfl rfl 9 (by decide) (hts _ kw_97) (fun _ h9 => h9) rfl dX5_second_262 ?_
        refine lv_iload hx hb dX5_second_265 (lv_at hl 2 rfl) ?_
        refine lv_iconst (v := 4) hx hb dX5_second_267 (by decide) ?_
        refine lv_iadd hx hb dX5_second_268 ?_
        refine x_eqi (nI_add (20 * a1) 4) ?_
        refine x_ialdN hx hb hK hP 2 ((20 * a1) + 4) rfl (by omega) (by decide) dX5_second_269 ?_
        refine lv_bipush (v := 60) hx hb dX5_second_270 (by decide) ?_
        obtain ⟨o_12, E_12, E⟩ := x_nm_ex E
        have J_12 : ∀ (v_11 : Int32), o_12 = v_11 → ∀ (H : Heap) (locs : List Loc) (ls : Array Slot), va_P g.1 vwCl [(tA, .inr (5, [.int (nI t_length), .ref tA_text, .int (nI t_at), .int (nI t_begin), .int t_told, .ref tA_is, .ref tA_doings, .ref tA_doing, .int t_items, .ref tA_row, .ref tA_isKept, .int t_when, .int t_most, .int t_mostAt, .int t_hiss, .ref tA_best, .ref tA_heats, .ref tA_orders, .ref tA_has, .int (nI t_tests), .ref tA_salt, .ref tA_crumbs, .long t_traced, .int t_hasSkin, .int t_hasBend])), (tA_is, .inl (g.2.1 0, 18, .inl t_is)), (tA_row, .inl (g.2.1 0, 80, .inl t_row_10))] H → va_D A [(tA, .inr (5, [.int (nI t_length), .ref tA_text, .int (nI t_at), .int (nI t_begin), .int t_told, .ref tA_is, .ref tA_doings, .ref tA_doing, .int t_items, .ref tA_row, .ref tA_isKept, .int t_when, .int t_most, .int t_mostAt, .int t_hiss, .ref tA_best, .ref tA_heats, .ref tA_orders, .ref tA_has, .int (nI t_tests), .ref tA_salt, .ref tA_crumbs, .long t_traced, .int t_hasSkin, .int t_hasBend])), (tA_is, .inl (g.2.1 0, 18, .inl t_is)), (tA_row, .inl (g.2.1 0, 80, .inl t_row_10))] → va_S A s.heap H locs → lv_has ls 11 [(0, .ref tA), (1, .int (nI a1)), (4, .int (nI (20 * a1)))] → W p l e rX5_second s m args below meth c H locs 0 0 Q (F0 m 291 ls [.int v_11, .int ((t_row_10 ((20 * a1) + 15)) / 20)]) := by
          intro v_11 hE  H locs ls hP hD hS hl
          try rw [hE] at E
          refine lv_iadd hx hb dX5_second_291 ?_
          refine lv_istore (lv' := [(7, .int (((t_row_10 ((20 * a1) + 15)) / 20) + v_11)), (0, .ref tA), (1, .int (nI a1)), (4, .int (nI (20 * a1)))]) hx hb dX5_second_292 hl (by decide) rfl (fun ls hl => ?_)
          refine lv_aload_n hx hb dX5_second_294 rfl (lv_at hl 1 rfl) ?_
          refine va_get (ci := 5) (v := .ref tA_row) (C := RX5) (T := TX5) (N := 25) hx hb hts inlX5 hown hK.1 hP 0 rfl rfl 9 (by decide) (hts _ kw_97) (fun _ h9 => h9) rfl dX5_second_295 ?_
          refine lv_iload hx hb dX5_second_298 (lv_at hl 3 rfl) ?_
          refine lv_bipush (v := 9) hx hb dX5_second_300 (by decide) ?_
          refine lv_iadd hx hb dX5_second_302 ?_
          refine x_eqi (nI_add (20 * a1) 9) ?_
          refine lv_aload_n hx hb dX5_second_303 rfl (lv_at hl 1 rfl) ?_
          refine va_get (ci := 5) (v := .ref tA_row) (C := RX5) (T := TX5) (N := 25) hx hb hts inlX5 hown hK.1 hP 0 rfl rfl 9 (by decide) (hts _ kw_97) (fun _ h9 => h9) rfl dX5_second_304 ?_
          refine lv_iload hx hb dX5_second_307 (lv_at hl 3 rfl) ?_
          refine lv_bipush (v := 9) hx hb dX5_second_309 (by decide) ?_
          refine lv_iadd hx hb dX5_second_311 ?_
          refine x_eqi (nI_add (20 * a1) 9) ?_
          refine x_ialdN hx hb hK hP 2 ((20 * a1) + 9) rfl (by omega) (by decide) dX5_second_312 ?_
          refine lv_iload hx hb dX5_second_313 (lv_at hl 0 rfl) ?_
          obtain ⟨o_14, E_14, E⟩ := x_nm_ex E
          have J_14 : ∀ (v_13 : Int32), o_14 = v_13 → ∀ (H : Heap) (locs : List Loc) (ls : Array Slot), va_P g.1 vwCl [(tA, .inr (5, [.int (nI t_length), .ref tA_text, .int (nI t_at), .int (nI t_begin), .int t_told, .ref tA_is, .ref tA_doings, .ref tA_doing, .int t_items, .ref tA_row, .ref tA_isKept, .int t_when, .int t_most, .int t_mostAt, .int t_hiss, .ref tA_best, .ref tA_heats, .ref tA_orders, .ref tA_has, .int (nI t_tests), .ref tA_salt, .ref tA_crumbs, .long t_traced, .int t_hasSkin, .int t_hasBend])), (tA_is, .inl (g.2.1 0, 18, .inl t_is)), (tA_row, .inl (g.2.1 0, 80, .inl t_row_10))] H → va_D A [(tA, .inr (5, [.int (nI t_length), .ref tA_text, .int (nI t_at), .int (nI t_begin), .int t_told, .ref tA_is, .ref tA_doings, .ref tA_doing, .int t_items, .ref tA_row, .ref tA_isKept, .int t_when, .int t_most, .int t_mostAt, .int t_hiss, .ref tA_best, .ref tA_heats, .ref tA_orders, .ref tA_has, .int (nI t_tests), .ref tA_salt, .ref tA_crumbs, .long t_traced, .int t_hasSkin, .int t_hasBend])), (tA_is, .inl (g.2.1 0, 18, .inl t_is)), (tA_row, .inl (g.2.1 0, 80, .inl t_row_10))] → va_S A s.heap H locs → lv_has ls 11 [(0, .ref tA), (1, .int (nI a1)), (4, .int (nI (20 * a1)))] → W p l e rX5_second s m args below meth c H locs 0 0 Q (F0 m 335 ls [.int v_13, .int (nI ((20 * a1) + 9)), .ref tA_row]) := by
            intro v_13 hE  H locs ls hP hD hS hl
            try rw [hE] at E
            refine x_iastN hx hb hK hP hD hS 2 ((20 * a1) + 9) rfl (by omega) (by decide) dX5_second_335 (fun t_row_15 H locs hf hP hD hS => ?_)
            have hP : va_P g.1 vwCl [(tA, .inr (5, [.int (nI t_length), .ref tA_text, .int (nI t_at), .int (nI t_begin), .int t_told, .ref tA_is, .ref tA_doings, .ref tA_doing, .int t_items, .ref tA_row, .ref tA_isKept, .int t_when, .int t_most, .int t_mostAt, .int t_hiss, .ref tA_best, .ref tA_heats, .ref tA_orders, .ref tA_has, .int (nI t_tests), .ref tA_salt, .ref tA_crumbs, .long t_traced, .int t_hasSkin, .int t_hasBend])), (tA_is, .inl (g.2.1 0, 18, .inl t_is)), (tA_row, .inl (g.2.1 0, 80, .inl t_row_15))] H := hP
            have hD : va_D A [(tA, .inr (5, [.int (nI t_length), .ref tA_text, .int (nI t_at), .int (nI t_begin), .int t_told, .ref tA_is, .ref tA_doings, .ref tA_doing, .int t_items, .ref tA_row, .ref tA_isKept, .int t_when, .int t_most, .int t_mostAt, .int t_hiss, .ref tA_best, .ref tA_heats, .ref tA_orders, .ref tA_has, .int (nI t_tests), .ref tA_salt, .ref tA_crumbs, .long t_traced, .int t_hasSkin, .int t_hasBend])), (tA_is, .inl (g.2.1 0, 18, .inl t_is)), (tA_row, .inl (g.2.1 0, 80, .inl t_row_15))] := hD
            have E := x_nm_eq E hf
            refine lv_iconst (v := 0) hx hb dX5_second_336 (by decide) ?_
            refine lv_istore (lv' := [(8, .int 0), (0, .ref tA), (1, .int (nI a1)), (4, .int (nI (20 * a1)))]) hx hb dX5_second_337 hl (by decide) rfl (fun ls hl => ?_)
            obtain ⟨o_17, E_17, E⟩ := x_nm_ex E
            have J_17 : ∀ (t_row_16 : Nat → Int32), o_17 = t_row_16 → ∀ (H : Heap) (locs : List Loc) (ls : Array Slot), va_P g.1 vwCl [(tA, .inr (5, [.int (nI t_length), .ref tA_text, .int (nI t_at), .int (nI t_begin), .int t_told, .ref tA_is, .ref tA_doings, .ref tA_doing, .int t_items, .ref tA_row, .ref tA_isKept, .int t_when, .int t_most, .int t_mostAt, .int t_hiss, .ref tA_best, .ref tA_heats, .ref tA_orders, .ref tA_has, .int (nI t_tests), .ref tA_salt, .ref tA_crumbs, .long t_traced, .int t_hasSkin, .int t_hasBend])), (tA_is, .inl (g.2.1 0, 18, .inl t_is)), (tA_row, .inl (g.2.1 0, 80, .inl t_row_16))] H → va_D A [(tA, .inr (5, [.int (nI t_length), .ref tA_text, .int (nI t_at), .int (nI t_begin), .int t_told, .ref tA_is, .ref tA_doings, .ref tA_doing, .int t_items, .ref tA_row, .ref tA_isKept, .int t_when, .int t_most, .int t_mostAt, .int t_hiss, .ref tA_best, .ref tA_heats, .ref tA_orders, .ref tA_has, .int (nI t_tests), .ref tA_salt, .ref tA_crumbs, .long t_traced, .int t_hasSkin, .int t_hasBend])), (tA_is, .inl (g.2.1 0, 18, .inl t_is)), (tA_row, .inl (g.2.1 0, 80, .inl t_row_16))] → va_S A s.heap H locs → lv_has ls 11 [(0, .ref tA), (1, .int (nI a1)), (4, .int (nI (20 * a1)))] → W p l e rX5_second s m args below meth c H locs 0 0 Q (F0 m 423 ls []) := by
              intro t_row_16 hE  H locs ls hP hD hS hl
              try rw [hE] at E
              refine lv_aload_n hx hb dX5_second_423 rfl (lv_at hl 0 rfl) ?_
              refine va_get (ci := 5) (v := .ref tA_row) (C := RX5) (T := TX5) (N := 25) hx hb hts inlX5 hown hK.1 hP 0 rfl rfl 9 (by decide) (hts _ kw_97) (fun _ h9 => h9) rfl dX5_second_424 ?_
              refine lv_iload hx hb dX5_second_427 (lv_at hl 2 rfl) ?_
              refine lv_bipush (v := 12) hx hb dX5_second_429 (by decide) ?_
              refine lv_iadd hx hb dX5_second_431 ?_
              refine x_eqi (nI_add (20 * a1) 12) ?_
              refine lv_dup2_11 hx hb dX5_second_432 rfl rfl ?_
              refine x_ialdN hx hb hK hP 2 ((20 * a1) + 12) rfl (by omega) (by decide) dX5_second_433 ?_
              refine lv_iconst (v := 1) hx hb dX5_second_434 (by decide) ?_
              refine lv_iadd hx hb dX5_second_435 ?_
              refine x_iastN hx hb hK hP hD hS 2 ((20 * a1) + 12) rfl (by omega) (by decide) dX5_second_436 (fun t_row_18 H locs hf hP hD hS => ?_)
              have hP : va_P g.1 vwCl [(tA, .inr (5, [.int (nI t_length), .ref tA_text, .int (nI t_at), .int (nI t_begin), .int t_told, .ref tA_is, .ref tA_doings, .ref tA_doing, .int t_items, .ref tA_row, .ref tA_isKept, .int t_when, .int t_most, .int t_mostAt, .int t_hiss, .ref tA_best, .ref tA_heats, .ref tA_orders, .ref tA_has, .int (nI t_tests), .ref tA_salt, .ref tA_crumbs, .long t_traced, .int t_hasSkin, .int t_hasBend])), (tA_is, .inl (g.2.1 0, 18, .inl t_is)), (tA_row, .inl (g.2.1 0, 80, .inl t_row_18))] H := hP
              have hD : va_D A [(tA, .inr (5, [.int (nI t_length), .ref tA_text, .int (nI t_at), .int (nI t_begin), .int t_told, .ref tA_is, .ref tA_doings, .ref tA_doing, .int t_items, .ref tA_row, .ref tA_isKept, .int t_when, .int t_most, .int t_mostAt, .int t_hiss, .ref tA_best, .ref tA_heats, .ref tA_orders, .ref tA_has, .int (nI t_tests), .ref tA_salt, .ref tA_crumbs, .long t_traced, .int t_hasSkin, .int t_hasBend])), (tA_is, .inl (g.2.1 0, 18, .inl t_is)), (tA_row, .inl (g.2.1 0, 80, .inl t_row_18))] := hD
              have E := x_nm_eq E hf
              refine lv_aload_n hx hb dX5_second_437 rfl (lv_at hl 0 rfl) ?_
              refine lv_iload_n hx hb dX5_second_438 rfl (lv_at hl 1 rfl) ?_
              refine x_callVi (w2 := fun u => [(tA, .inr (5, [.int (nI t_length), .ref tA_text, .int (nI t_at), .int (nI t_begin), .int t_told, .ref tA_is, .ref tA_doings, .ref tA_doing, .int t_items, .ref tA_row, .ref tA_isKept, .int t_when, .int t_most, .int t_mostAt, .int t_hiss, .ref tA_best, .ref tA_heats, .ref tA_orders, .ref tA_has, .int (nI t_tests), .ref tA_salt, .ref tA_crumbs, .long t_traced, .int t_hasSkin, .int t_hasBend])), (tA_is, .inl (g.2.1 0, 18, .inl t_is)), (tA_row, .inl (g.2.1 0, 80, .inl t_row_18))]) (wr := []) [0, 1, 2] [] [0, 1, 2] 0 5 ⟨hx, hb, hml, hown, hts⟩ hK hX hP hD hS hA (m_X5_press l g tA tA_is tA_row tA_text tA_doings tA_doing tA_isKept tA_best tA_heats tA_orders tA_has tA_salt tA_crumbs t_length t_at t_begin t_told t_items t_when t_most t_mostAt t_hiss t_tests t_traced t_hasSkin t_hasBend t_is t_row_18 a1 (by first | assumption | omega | exact x_e8 (by assumption) (by assumption))) (cwV 1 hts (x_gV kw_448 kw_449 kw_450 kw_5 kw_451) rfl rfl rfl vX5_press ⟨Nat.le_of_ble_eq_true rfl, Nat.le_of_ble_eq_true rfl⟩) rfl rfl rfl rfl rfl rfl rfl (by decide) (fun _ => rfl) rfl rfl hl.1 rfl (Nat.le_of_ble_eq_true rfl) dX5_second_439 ⟨Nat.zero_le _, Nat.zero_le _⟩ (fun z_19 _ H locs hw_20 hP hD hS => ?_)
              have E := x_nm_eq E hw_20
              refine lv_istore (lv' := [(8, .int z_19), (0, .ref tA), (1, .int (nI a1)), (4, .int (nI (20 * a1)))]) hx hb dX5_second_442 hl (by decide) rfl (fun ls hl => ?_)
              refine lv_aload_n hx hb dX5_second_444 rfl (lv_at hl 1 rfl) ?_
              refine va_get (ci := 5) (v := .ref tA_row) (C := RX5) (T := TX5) (N := 25) hx hb hts inlX5 hown hK.1 hP 0 rfl rfl 9 (by decide) (hts _ kw_97) (fun _ h9 => h9) rfl dX5_second_445 ?_
              refine lv_iload hx hb dX5_second_448 (lv_at hl 3 rfl) ?_
              refine lv_bipush (v := 17) hx hb dX5_second_450 (by decide) ?_
              refine lv_iadd hx hb dX5_second_452 ?_
              refine x_eqi (nI_add (20 * a1) 17) ?_
              refine lv_iload hx hb dX5_second_453 (lv_at hl 0 rfl) ?_
              refine x_iastN hx hb hK hP hD hS 2 ((20 * a1) + 17) rfl (by omega) (by decide) dX5_second_455 (fun t_row_22 H locs hf hP hD hS => ?_)
              have hP : va_P g.1 vwCl [(tA, .inr (5, [.int (nI t_length), .ref tA_text, .int (nI t_at), .int (nI t_begin), .int t_told, .ref tA_is, .ref tA_doings, .ref tA_doing, .int t_items, .ref tA_row, .ref tA_isKept, .int t_when, .int t_most, .int t_mostAt, .int t_hiss, .ref tA_best, .ref tA_heats, .ref tA_orders, .ref tA_has, .int (nI t_tests), .ref tA_salt, .ref tA_crumbs, .long t_traced, .int t_hasSkin, .int t_hasBend])), (tA_is, .inl (g.2.1 0, 18, .inl t_is)), (tA_row, .inl (g.2.1 0, 80, .inl t_row_22))] H := hP
              have hD : va_D A [(tA, .inr (5, [.int (nI t_length), .ref tA_text, .int (nI t_at), .int (nI t_begin), .int t_told, .ref tA_is, .ref tA_doings, .ref tA_doing, .int t_items, .ref tA_row, .ref tA_isKept, .int t_when, .int t_most, .int t_mostAt, .int t_hiss, .ref tA_best, .ref tA_heats, .ref tA_orders, .ref tA_has, .int (nI t_tests), .ref tA_salt, .ref tA_crumbs, .long t_traced, .int t_hasSkin, .int t_hasBend])), (tA_is, .inl (g.2.1 0, 18, .inl t_is)), (tA_row, .inl (g.2.1 0, 80, .inl t_row_22))] := hD
              have E := x_nm_eq E hf
              refine lv_iconst (v := 0) hx hb dX5_second_456 (by decide) ?_
              refine lv_istore (lv' := [(9, .int 0), (8, .int z_19), (0, .ref tA), (1, .int (nI a1)), (4, .int (nI (20 * a1)))]) hx hb dX5_second_457 hl (by decide) rfl (fun ls hl => ?_)
              obtain ⟨o_24, E_24, E⟩ := x_nm_ex E
              have J_24 : ∀ (t_row_23 : Nat → Int32), o_24 = t_row_23 → ∀ (H : Heap) (locs : List Loc) (ls : Array Slot), va_P g.1 vwCl [(tA, .inr (5, [.int (nI t_length), .ref tA_text, .int (nI t_at), .int (nI t_begin), .int t_told, .ref tA_is, .ref tA_doings, .ref tA_doing, .int t_items, .ref tA_row, .ref tA_isKept, .int t_when, .int t_most, .int t_mostAt, .int t_hiss, .ref tA_best, .ref tA_heats, .ref tA_orders, .ref tA_has, .int (nI t_tests), .ref tA_salt, .ref tA_crumbs, .long t_traced, .int t_hasSkin, .int t_hasBend])), (tA_is, .inl (g.2.1 0, 18, .inl t_is)), (tA_row, .inl (g.2.1 0, 80, .inl t_row_23))] H → va_D A [(tA, .inr (5, [.int (nI t_length), .ref tA_text, .int (nI t_at), .int (nI t_begin), .int t_told, .ref tA_is, .ref tA_doings, .ref tA_doing, .int t_items, .ref tA_row, .ref tA_isKept, .int t_when, .int t_most, .int t_mostAt, .int t_hiss, .ref tA_best, .ref tA_heats, .ref tA_orders, .ref tA_has, .int (nI t_tests), .ref tA_salt, .ref tA_crumbs, .long t_traced, .int t_hasSkin, .int t_hasBend])), (tA_is, .inl (g.2.1 0, 18, .inl t_is)), (tA_row, .inl (g.2.1 0, 80, .inl t_row_23))] → va_S A s.heap H locs → lv_has ls 11 [(0, .ref tA), (4, .int (nI (20 * a1))), (8, .int z_19)] → W p l e rX5_second s m args below meth c H locs 0 0 Q (F0 m 525 ls []) := by
                intro t_row_23 hE  H locs ls hP hD hS hl
                try rw [hE] at E
                refine lv_aload_n hx hb dX5_second_525 rfl (lv_at hl 0 rfl) ?_
                refine va_get (ci := 5) (v := .ref tA_row) (C := RX5) (T := TX5) (N := 25) hx hb hts inlX5 hown hK.1 hP 0 rfl rfl 9 (by decide) (hts _ kw_97) (fun _ h9 => h9) rfl dX5_second_526 ?_
                refine lv_iload hx hb dX5_second_529 (lv_at hl 1 rfl) ?_
                refine lv_bipush (v := 13) hx hb dX5_second_531 (by decide) ?_
                refine lv_iadd hx hb dX5_second_533 ?_
                refine x_eqi (nI_add (20 * a1) 13) ?_
                refine lv_aload_n hx hb dX5_second_534 rfl (lv_at hl 0 rfl) ?_
                refine va_get (ci := 5) (v := .ref tA_row) (C := RX5) (T := TX5) (N := 25) hx hb hts inlX5 hown hK.1 hP 0 rfl rfl 9 (by decide) (hts _ kw_97) (fun _ h9 => h9) rfl dX5_second_535 ?_
                refine lv_iload hx hb dX5_second_538 (lv_at hl 1 rfl) ?_
                refine lv_bipush (v := 13) hx hb dX5_second_540 (by decide) ?_
                refine lv_iadd hx hb dX5_second_542 ?_
                refine x_eqi (nI_add (20 * a1) 13) ?_
                refine x_ialdN hx hb hK hP 2 ((20 * a1) + 13) rfl (by omega) (by decide) dX5_second_543 ?_
                obtain ⟨o_26, E_26, E⟩ := x_nm_ex E
                have J_26 : ∀ (v_25 : Int32), o_26 = v_25 → ∀ (H : Heap) (locs : List Loc) (ls : Array Slot), va_P g.1 vwCl [(tA, .inr (5, [.int (nI t_length), .ref tA_text, .int (nI t_at), .int (nI t_begin), .int t_told, .ref tA_is, .ref tA_doings, .ref tA_doing, .int t_items, .ref tA_row, .ref tA_isKept, .int t_when, .int t_most, .int t_mostAt, .int t_hiss, .ref tA_best, .ref tA_heats, .ref tA_orders, .ref tA_has, .int (nI t_tests), .ref tA_salt, .ref tA_crumbs, .long t_traced, .int t_hasSkin, .int t_hasBend])), (tA_is, .inl (g.2.1 0, 18, .inl t_is)), (tA_row, .inl (g.2.1 0, 80, .inl t_row_23))] H → va_D A [(tA, .inr (5, [.int (nI t_length), .ref tA_text, .int (nI t_at), .int (nI t_begin), .int t_told, .ref tA_is, .ref tA_doings, .ref tA_doing, .int t_items, .ref tA_row, .ref tA_isKept, .int t_when, .int t_most, .int t_mostAt, .int t_hiss, .ref tA_best, .ref tA_heats, .ref tA_orders, .ref tA_has, .int (nI t_tests), .ref tA_salt, .ref tA_crumbs, .long t_traced, .int t_hasSkin, .int t_hasBend])), (tA_is, .inl (g.2.1 0, 18, .inl t_is)), (tA_row, .inl (g.2.1 0, 80, .inl t_row_23))] → va_S A s.heap H locs → lv_has ls 11 [] → W p l e rX5_second s m args below meth c H locs 0 0 Q (F0 m 581 ls [.int v_25, .int (nI ((20 * a1) + 13)), .ref tA_row]) := by
                  intro v_25 hE  H locs ls hP hD hS hl
                  try rw [hE] at E
                  refine x_iastN hx hb hK hP hD hS 2 ((20 * a1) + 13) rfl (by omega) (by decide) dX5_second_581 (fun t_row_27 H locs hf hP hD hS => ?_)
                  have hP : va_P g.1 vwCl [(tA, .inr (5, [.int (nI t_length), .ref tA_text, .int (nI t_at), .int (nI t_begin), .int t_told, .ref tA_is, .ref tA_doings, .ref tA_doing, .int t_items, .ref tA_row, .ref tA_isKept, .int t_when, .int t_most, .int t_mostAt, .int t_hiss, .ref tA_best, .ref tA_heats, .ref tA_orders, .ref tA_has, .int (nI t_tests), .ref tA_salt, .ref tA_crumbs, .long t_traced, .int t_hasSkin, .int t_hasBend])), (tA_is, .inl (g.2.1 0, 18, .inl t_is)), (tA_row, .inl (g.2.1 0, 80, .inl t_row_27))] H := hP
                  have hD : va_D A [(tA, .inr (5, [.int (nI t_length), .ref tA_text, .int (nI t_at), .int (nI t_begin), .int t_told, .ref tA_is, .ref tA_doings, .ref tA_doing, .int t_items, .ref tA_row, .ref tA_isKept, .int t_when, .int t_most, .int t_mostAt, .int t_hiss, .ref tA_best, .ref tA_heats, .ref tA_orders, .ref tA_has, .int (nI t_tests), .ref tA_salt, .ref tA_crumbs, .long t_traced, .int t_hasSkin, .int t_hasBend])), (tA_is, .inl (g.2.1 0, 18, .inl t_is)), (tA_row, .inl (g.2.1 0, 80, .inl t_row_27))] := hD
                  have E := x_nm_eq E hf
                  exact RET t_row_27 H locs _ _ (E.symm.trans hO) hP hD hS dX5_second_582
                have E := E_26
                refine x_if_neI (tgt := 571) hx hb dX5_second_544 (by decide) (fun c_28 => ?_) (fun c_28 => ?_)
                · have E := x_neg E c_28
                  refine lv_aload_n hx hb dX5_second_571 rfl (lv_at hl 0 rfl) ?_
                  refine va_get (ci := 5) (v := .ref tA_row) (C := RX5) (T := TX5) (N := 25) hx hb hts inlX5 hown hK.1 hP 0 rfl rfl 9 (by decide) (hts _ kw_97) (fun _ h9 => h9) rfl dX5_second_572 ?_
                  refine lv_iload hx hb dX5_second_575 (lv_at hl 1 rfl) ?_
                  refine lv_bipush (v := 13) hx hb dX5_second_577 (by decide) ?_
                  refine lv_iadd hx hb dX5_second_579 ?_
                  refine x_eqi (nI_add (20 * a1) 13) ?_
                  refine x_ialdN hx hb hK hP 2 ((20 * a1) + 13) rfl (by omega) (by decide) dX5_second_580 ?_
                  exact J_26 (t_row_23 ((20 * a1) + 13)) E  H locs ls hP hD hS (lv_sub hl [] rfl)
                · have E := x_pos E c_28
                  refine lv_iload hx hb dX5_second_547 (lv_at hl 2 rfl) ?_
                  refine lv_aload_n hx hb dX5_second_549 rfl (lv_at hl 0 rfl) ?_
                  refine va_get (ci := 5) (v := .ref tA_is) (C := RX5) (T := TX5) (N := 25) hx hb hts inlX5 hown hK.1 hP 0 rfl rfl 5 (by decide) (hts _ kw_94) (fun _ h9 => h9) rfl dX5_second_550 ?_
                  refine lv_iconst (v := 0) hx hb dX5_second_553 (by decide) ?_
                  refine x_ialdN hx hb hK hP 1 0 rfl (by omega) (by decide) dX5_second_554 ?_
                  refine lv_imul hx hb dX5_second_555 ?_
                  refine lv_iconst (v := 2) hx hb dX5_second_556 (by decide) ?_
                  refine lv_idiv hx hb dX5_second_557 (by decide) ?_
                  refine lv_aload_n hx hb dX5_second_558 rfl (lv_at hl 0 rfl) ?_
                  refine va_get (ci := 5) (v := .ref tA_is) (C := RX5) (T := TX5) (N := 25) hx hb hts inlX5 hown hK.1 hP 0 rfl rfl 5 (by decide) (hts _ kw_94) (fun _ h9 => h9) rfl dX5_second_559 ?_
                  refine lv_iconst (v := 4) hx hb dX5_second_562 (by decide) ?_
                  refine x_ialdN hx hb hK hP 1 4 rfl (by omega) (by decide) dX5_second_563 ?_
                  refine lv_icmp_le (tgt := 571) hx hb dX5_second_564 (by decide) (fun c_29 => ?_) (fun c_29 => ?_)
                  · have E := x_pos E c_29
                    refine lv_aload_n hx hb dX5_second_571 rfl (lv_at hl 0 rfl) ?_
                    refine va_get (ci := 5) (v := .ref tA_row) (C := RX5) (T := TX5) (N := 25) hx hb hts inlX5 hown hK.1 hP 0 rfl rfl 9 (by decide) (hts _ kw_97) (fun _ h9 => h9) rfl dX5_second_572 ?_
                    refine lv_iload hx hb dX5_second_575 (lv_at hl 1 rfl) ?_
                    refine lv_bipush (v := 13) hx hb dX5_second_577 (by decide) ?_
                    refine lv_iadd hx hb dX5_second_579 ?_
                    refine x_eqi (nI_add (20 * a1) 13) ?_
                    refine x_ialdN hx hb hK hP 2 ((20 * a1) + 13) rfl (by omega) (by decide) dX5_second_580 ?_
                    exact J_26 (t_row_23 ((20 * a1) + 13)) E  H locs ls hP hD hS (lv_sub hl [] rfl)
                  · have E := x_neg E c_29
                    refine lv_iconst (v := 2) hx hb dX5_second_567 (by decide) ?_
                    refine lv_goto (tgt := 581) hx hb dX5_second_568 (by decide) ?_
                    exact J_26 2 E  H locs ls hP hD hS (lv_sub hl [] rfl)
              have E := E_24
              have L_32 : ∀ (n_32 : Nat) (k9_30 : Nat) (t_row_31 : Nat → Int32), (k9_30 ≤ 4) → ((4 - k9_30) < n_32) → o_24 = F_X5_second_L459 t_is a1 z_19 n_32 k9_30 t_row_31 → ∀ (H : Heap) (locs : List Loc) (ls : Array Slot), va_P g.1 vwCl [(tA, .inr (5, [.int (nI t_length), .ref tA_text, .int (nI t_at), .int (nI t_begin), .int t_told, .ref tA_is, .ref tA_doings, .ref tA_doing, .int t_items, .ref tA_row, .ref tA_isKept, .int t_when, .int t_most, .int t_mostAt, .int t_hiss, .ref tA_best, .ref tA_heats, .ref tA_orders, .ref tA_has, .int (nI t_tests), .ref tA_salt, .ref tA_crumbs, .long t_traced, .int t_hasSkin, .int t_hasBend])), (tA_is, .inl (g.2.1 0, 18, .inl t_is)), (tA_row, .inl (g.2.1 0, 80, .inl t_row_31))] H → va_D A [(tA, .inr (5, [.int (nI t_length), .ref tA_text, .int (nI t_at), .int (nI t_begin), .int t_told, .ref tA_is, .ref tA_doings, .ref tA_doing, .int t_items, .ref tA_row, .ref tA_isKept, .int t_when, .int t_most, .int t_mostAt, .int t_hiss, .ref tA_best, .ref tA_heats, .ref tA_orders, .ref tA_has, .int (nI t_tests), .ref tA_salt, .ref tA_crumbs, .long t_traced, .int t_hasSkin, .int t_hasBend])), (tA_is, .inl (g.2.1 0, 18, .inl t_is)), (tA_row, .inl (g.2.1 0, 80, .inl t_row_31))] → va_S A s.heap H locs → lv_has ls 11 [(0, .ref tA), (1, .int (nI a1)), (4, .int (nI (20 * a1))), (8, .int z_19), (9, .int (nI k9_30))] → W p l e rX5_second s m args below meth c H locs 0 0 Q (F0 m 459 ls []) := by
                intro n_32
                induction n_32 with
                | zero => intro k9_30 t_row_31 i_32_0 i_32_1; exact absurd i_32_1 (by omega)
                | succ n_32 ih_32 =>
                  intro k9_30 t_row_31 i_32_0 i_32_1 E H locs ls hP hD hS hl
                  rw [F_X5_second_L459.eq_2] at E
                  refine lv_iload hx hb dX5_second_459 (lv_at hl 4 rfl) ?_
                  refine lv_iconst (v := 4) hx hb dX5_second_461 (by decide) ?_
                  refine x_icmp_ge (a := k9_30) (b := 4) (tgt := 525) hx hb (by omega) (by omega) dX5_second_462 (by decide) (fun c_33 => ?_) (fun c_33 => ?_)
                  · have E := x_pos E c_33
                    exact J_24 t_row_31 E  H locs ls hP hD hS (lv_sub hl [0, 2, 3] rfl)
                  · have E := x_neg E c_33
                    refine lv_aload_n hx hb dX5_second_465 rfl (lv_at hl 0 rfl) ?_
                    refine va_get (ci := 5) (v := .ref tA_row) (C := RX5) (T := TX5) (N := 25) hx hb hts inlX5 hown hK.1 hP 0 rfl rfl 9 (by decide) (hts _ kw_97) (fun _ h9 => h9) rfl dX5_second_466 ?_
                    refine lv_iload hx hb dX5_second_469 (lv_at hl 2 rfl) ?_
                    refine lv_bipush (v := 13) hx hb dX5_second_471 (by decide) ?_
                    refine lv_iadd hx hb dX5_second_473 ?_
                    refine x_eqi (nI_add (20 * a1) 13) ?_
                    refine x_ialdN hx hb hK hP 2 ((20 * a1) + 13) rfl (by omega) (by decide) dX5_second_474 ?_
                    obtain ⟨o_35, E_35, E⟩ := x_nm_ex E
                    have J_35 : ∀ (t_row_34 : Nat → Int32), o_35 = t_row_34 → ∀ (H : Heap) (locs : List Loc) (ls : Array Slot), va_P g.1 vwCl [(tA, .inr (5, [.int (nI t_length), .ref tA_text, .int (nI t_at), .int (nI t_begin), .int t_told, .ref tA_is, .ref tA_doings, .ref tA_doing, .int t_items, .ref tA_row, .ref tA_isKept, .int t_when, .int t_most, .int t_mostAt, .int t_hiss, .ref tA_best, .ref tA_heats, .ref tA_orders, .ref tA_has, .int (nI t_tests), .ref tA_salt, .ref tA_crumbs, .long t_traced, .int t_hasSkin, .int t_hasBend])), (tA_is, .inl (g.2.1 0, 18, .inl t_is)), (tA_row, .inl (g.2.1 0, 80, .inl t_row_34))] H → va_D A [(tA, .inr (5, [.int (nI t_length), .ref tA_text, .int (nI t_at), .int (nI t_begin), .int t_told, .ref tA_is, .ref tA_doings, .ref tA_doing, .int t_items, .ref tA_row, .ref tA_isKept, .int t_when, .int t_most, .int t_mostAt, .int t_hiss, .ref tA_best, .ref tA_heats, .ref tA_orders, .ref tA_has, .int (nI t_tests), .ref tA_salt, .ref tA_crumbs, .long t_traced, .int t_hasSkin, .int t_hasBend])), (tA_is, .inl (g.2.1 0, 18, .inl t_is)), (tA_row, .inl (g.2.1 0, 80, .inl t_row_34))] → va_S A s.heap H locs → lv_has ls 11 [(0, .ref tA), (1, .int (nI a1)), (4, .int (nI (20 * a1))), (8, .int z_19), (9, .int (nI k9_30))] → W p l e rX5_second s m args below meth c H locs 0 0 Q (F0 m 519 ls []) := by
                      intro t_row_34 hE  H locs ls hP hD hS hl
                      try rw [hE] at E
                      refine lv_iinc (v := nI (k9_30 + 1)) (lv' := [(9, .int (nI (k9_30 + 1))), (0, .ref tA), (1, .int (nI a1)), (4, .int (nI (20 * a1))), (8, .int z_19)]) hx hb dX5_second_519 hl (k := 4) rfl (nI_1 k9_30) (by decide) rfl (fun ls hl => ?_)
                      refine lv_goto (tgt := 459) hx hb dX5_second_522 (by decide) ?_
                      exact ih_32 (k9_30 + 1) t_row_34 (by first | omega | assumption | exact Eq.trans (by assumption) (by assumption)) (by omega) E H locs ls hP hD hS (lv_sub hl [1, 2, 3, 4, 0] rfl)
                    have E := E_35
                    refine x_if_neI (tgt := 519) hx hb dX5_second_475 (by decide) (fun c_36 => ?_) (fun c_36 => ?_)
                    · have E := x_neg E c_36
                      exact J_35 t_row_31 E  H locs ls hP hD hS (lv_sub hl [0, 1, 2, 3, 4] rfl)
                    · have E := x_pos E c_36
                      refine lv_aload_n hx hb dX5_second_478 rfl (lv_at hl 0 rfl) ?_
                      refine lv_iload hx hb dX5_second_479 (lv_at hl 3 rfl) ?_
                      refine lv_iload hx hb dX5_second_481 (lv_at hl 4 rfl) ?_
                      refine x_callVi (w2 := fun u => [(tA, .inr (5, [.int (nI t_length), .ref tA_text, .int (nI t_at), .int (nI t_begin), .int t_told, .ref tA_is, .ref tA_doings, .ref tA_doing, .int t_items, .ref tA_row, .ref tA_isKept, .int t_when, .int t_most, .int t_mostAt, .int t_hiss, .ref tA_best, .ref tA_heats, .ref tA_orders, .ref tA_has, .int (nI t_tests), .ref tA_salt, .ref tA_crumbs, .long t_traced, .int t_hasSkin, .int t_hasBend])), (tA_is, .inl (g.2.1 0, 18, .inl t_is)), (tA_row, .inl (g.2.1 0, 80, .inl t_row_31))]) (wr := [(tA_row, .inl (g.2.1 0, 80, .inl t_row_31))]) [0, 1] [2] [1, 2, 0] 0 5 ⟨hx, hb, hml, hown, hts⟩ hK hX hP hD hS hA (m_X5_pulls l g tA tA_is tA_text tA_doings tA_doing tA_row tA_isKept tA_best tA_heats tA_orders tA_has tA_salt tA_crumbs t_length t_at t_begin t_told t_items t_when t_most t_mostAt t_hiss t_tests t_traced t_hasSkin t_hasBend t_is z_19 (nI k9_30)) (cwV 2 hts (x_gV kw_452 kw_453 kw_454 kw_5 kw_455) rfl rfl rfl vX5_pulls ⟨Nat.le_of_ble_eq_true rfl, Nat.le_of_ble_eq_true rfl⟩) rfl rfl rfl rfl rfl rfl rfl (by decide) (fun _ => rfl) rfl rfl hl.1 rfl (Nat.le_of_ble_eq_true rfl) dX5_second_483 ⟨Nat.zero_le _, Nat.zero_le _⟩ (fun z_37 _ H locs hw_38 hP hD hS => ?_)
                      have E := x_nm_eq E hw_38
                      refine lv_aload_n hx hb dX5_second_486 rfl (lv_at hl 0 rfl) ?_
                      refine lv_iload_n hx hb dX5_second_487 rfl (lv_at hl 1 rfl) ?_
                      refine lv_iload hx hb dX5_second_488 (lv_at hl 4 rfl) ?_
                      refine x_callVi (w2 := fun u => [(tA, .inr (5, [.int (nI t_length), .ref tA_text, .int (nI t_at), .int (nI t_begin), .int t_told, .ref tA_is, .ref tA_doings, .ref tA_doing, .int t_items, .ref tA_row, .ref tA_isKept, .int t_when, .int t_most, .int t_mostAt, .int t_hiss, .ref tA_best, .ref tA_heats, .ref tA_orders, .ref tA_has, .int (nI t_tests), .ref tA_salt, .ref tA_crumbs, .long t_traced, .int t_hasSkin, .int t_hasBend])), (tA_is, .inl (g.2.1 0, 18, .inl t_is)), (tA_row, .inl (g.2.1 0, 80, .inl t_row_31))]) (wr := []) [0, 1, 2] [] [0, 1, 2] 0 5 ⟨hx, hb, hml, hown, hts⟩ hK hX hP hD hS hA (m_X5_holdsAt l g tA tA_is tA_row tA_text tA_doings tA_doing tA_isKept tA_best tA_heats tA_orders tA_has tA_salt tA_crumbs t_length t_at t_begin t_told t_items t_when t_most t_mostAt t_hiss t_tests t_traced t_hasSkin t_hasBend t_is t_row_31 a1 k9_30 (by first | assumption | omega | exact x_e8 (by assumption) (by assumption)) (by first | assumption | omega | exact x_e8 (by assumption) (by assumption))) (cwV 2 hts (x_gV kw_456 kw_457 kw_458 kw_5 kw_459) rfl rfl rfl vX5_holdsAt ⟨Nat.le_of_ble_eq_true rfl, Nat.le_of_ble_eq_true rfl⟩) rfl rfl rfl rfl rfl rfl rfl (by decide) (fun _ => rfl) rfl rfl hl.1 rfl (Nat.le_of_ble_eq_true rfl) dX5_second_490 ⟨Nat.zero_le _, Nat.zero_le _⟩ (fun z_40 _ H locs hw_41 hP hD hS => ?_)
                      have E := x_nm_eq E hw_41
                      refine lv_icmp_le (tgt := 519) hx hb dX5_second_493 (by decide) (fun c_43 => ?_) (fun c_43 => ?_)
                      · have E := x_pos E c_43
                        exact J_35 t_row_31 E  H locs ls hP hD hS (lv_sub hl [0, 1, 2, 3, 4] rfl)
                      · have E := x_neg E c_43
                        refine lv_aload_n hx hb dX5_second_496 rfl (lv_at hl 0 rfl) ?_
                        refine va_get (ci := 5) (v := .ref tA_row) (C := RX5) (T := TX5) (N := 25) hx hb hts inlX5 hown hK.1 hP 0 rfl rfl 9 (by decide) (hts _ kw_97) (fun _ h9 => h9) rfl dX5_second_497 ?_
                        refine lv_iload hx hb dX5_second_500 (lv_at hl 2 rfl) ?_
                        refine lv_bipush (v := 13) hx hb dX5_second_502 (by decide) ?_
                        refine lv_iadd hx hb dX5_second_504 ?_
                        refine x_eqi (nI_add (20 * a1) 13) ?_
                        refine lv_iconst (v := 1) hx hb dX5_second_505 (by decide) ?_
                        refine x_iastN hx hb hK hP hD hS 2 ((20 * a1) + 13) rfl (by omega) (by decide) dX5_second_506 (fun t_row_44 H locs hf hP hD hS => ?_)
                        have hP : va_P g.1 vwCl [(tA, .inr (5, [.int (nI t_length), .ref tA_text, .int (nI t_at), .int (nI t_begin), .int t_told, .ref tA_is, .ref tA_doings, .ref tA_doing, .int t_items, .ref tA_row, .ref tA_isKept, .int t_when, .int t_most, .int t_mostAt, .int t_hiss, .ref tA_best, .ref tA_heats, .ref tA_orders, .ref tA_has, .int (nI t_tests), .ref tA_salt, .ref tA_crumbs, .long t_traced, .int t_hasSkin, .int t_hasBend])), (tA_is, .inl (g.2.1 0, 18, .inl t_is)), (tA_row, .inl (g.2.1 0, 80, .inl t_row_44))] H := hP
                        have hD : va_D A [(tA, .inr (5, [.int (nI t_length), .ref tA_text, .int (nI t_at), .int (nI t_begin), .int t_told, .ref tA_is, .ref tA_doings, .ref tA_doing, .int t_items, .ref tA_row, .ref tA_isKept, .int t_when, .int t_most, .int t_mostAt, .int t_hiss, .ref tA_best, .ref tA_heats, .ref tA_orders, .ref tA_has, .int (nI t_tests), .ref tA_salt, .ref tA_crumbs, .long t_traced, .int t_hasSkin, .int t_hasBend])), (tA_is, .inl (g.2.1 0, 18, .inl t_is)), (tA_row, .inl (g.2.1 0, 80, .inl t_row_44))] := hD
                        have E := x_nm_eq E hf
                        refine lv_aload_n hx hb dX5_second_507 rfl (lv_at hl 0 rfl) ?_
                        refine va_get (ci := 5) (v := .ref tA_row) (C := RX5) (T := TX5) (N := 25) hx hb hts inlX5 hown hK.1 hP 0 rfl rfl 9 (by decide) (hts _ kw_97) (fun _ h9 => h9) rfl dX5_second_508 ?_
                        refine lv_iload hx hb dX5_second_511 (lv_at hl 2 rfl) ?_
                        refine lv_bipush (v := 14) hx hb dX5_second_513 (by decide) ?_
                        refine lv_iadd hx hb dX5_second_515 ?_
                        refine x_eqi (nI_add (20 * a1) 14) ?_
                        refine lv_iload hx hb dX5_second_516 (lv_at hl 4 rfl) ?_
                        refine x_iastN hx hb hK hP hD hS 2 ((20 * a1) + 14) rfl (by omega) (by decide) dX5_second_518 (fun t_row_45 H locs hf hP hD hS => ?_)
                        have hP : va_P g.1 vwCl [(tA, .inr (5, [.int (nI t_length), .ref tA_text, .int (nI t_at), .int (nI t_begin), .int t_told, .ref tA_is, .ref tA_doings, .ref tA_doing, .int t_items, .ref tA_row, .ref tA_isKept, .int t_when, .int t_most, .int t_mostAt, .int t_hiss, .ref tA_best, .ref tA_heats, .ref tA_orders, .ref tA_has, .int (nI t_tests), .ref tA_salt, .ref tA_crumbs, .long t_traced, .int t_hasSkin, .int t_hasBend])), (tA_is, .inl (g.2.1 0, 18, .inl t_is)), (tA_row, .inl (g.2.1 0, 80, .inl t_row_45))] H := hP
                        have hD : va_D A [(tA, .inr (5, [.int (nI t_length), .ref tA_text, .int (nI t_at), .int (nI t_begin), .int t_told, .ref tA_is, .ref tA_doings, .ref tA_doing, .int t_items, .ref tA_row, .ref tA_isKept, .int t_when, .int t_most, .int t_mostAt, .int t_hiss, .ref tA_best, .ref tA_heats, .ref tA_orders, .ref tA_has, .int (nI t_tests), .ref tA_salt, .ref tA_crumbs, .long t_traced, .int t_hasSkin, .int t_hasBend])), (tA_is, .inl (g.2.1 0, 18, .inl t_is)), (tA_row, .inl (g.2.1 0, 80, .inl t_row_45))] := hD
                        have E := x_nm_eq E hf
                        exact J_35 t_row_45 E  H locs ls hP hD hS (lv_sub hl [0, 1, 2, 3, 4] rfl)
              exact L_32 (4 + 1) 0 t_row_22 (by first | omega | assumption | rfl) (by omega) E H locs ls hP hD hS (lv_sub hl [2, 3, 4, 1, 0] rfl)
            have E := E_17
            have L_48 : ∀ (n_48 : Nat) (k8_46 : Nat) (t_row_47 : Nat → Int32), (k8_46 ≤ 4) → ((4 - k8_46) < n_48) → o_17 = F_X5_second_L339 a1 n_48 k8_46 t_row_47 → ∀ (H : Heap) (locs : List Loc) (ls : Array Slot), va_P g.1 vwCl [(tA, .inr (5, [.int (nI t_length), .ref tA_text, .int (nI t_at), .int (nI t_begin), .int t_told, .ref tA_is, .ref tA_doings, .ref tA_doing, .int t_items, .ref tA_row, .ref tA_isKept, .int t_when, .int t_most, .int t_mostAt, .int t_hiss, .ref tA_best, .ref tA_heats, .ref tA_orders, .ref tA_has, .int (nI t_tests), .ref tA_salt, .ref tA_crumbs, .long t_traced, .int t_hasSkin, .int t_hasBend])), (tA_is, .inl (g.2.1 0, 18, .inl t_is)), (tA_row, .inl (g.2.1 0, 80, .inl t_row_47))] H → va_D A [(tA, .inr (5, [.int (nI t_length), .ref tA_text, .int (nI t_at), .int (nI t_begin), .int t_told, .ref tA_is, .ref tA_doings, .ref tA_doing, .int t_items, .ref tA_row, .ref tA_isKept, .int t_when, .int t_most, .int t_mostAt, .int t_hiss, .ref tA_best, .ref tA_heats, .ref tA_orders, .ref tA_has, .int (nI t_tests), .ref tA_salt, .ref tA_crumbs, .long t_traced, .int t_hasSkin, .int t_hasBend])), (tA_is, .inl (g.2.1 0, 18, .inl t_is)), (tA_row, .inl (g.2.1 0, 80, .inl t_row_47))] → va_S A s.heap H locs → lv_has ls 11 [(0, .ref tA), (1, .int (nI a1)), (4, .int (nI (20 * a1))), (8, .int (nI k8_46))] → W p l e rX5_second s m args below meth c H locs 0 0 Q (F0 m 339 ls []) := by
              intro n_48
              induction n_48 with
              | zero => intro k8_46 t_row_47 i_48_0 i_48_1; exact absurd i_48_1 (by omega)
              | succ n_48 ih_48 =>
                intro k8_46 t_row_47 i_48_0 i_48_1 E H locs ls hP hD hS hl
                rw [F_X5_second_L339.eq_2] at E
                refine lv_iload hx hb dX5_second_339 (lv_at hl 3 rfl) ?_
                refine lv_iconst (v := 4) hx hb dX5_second_341 (by decide) ?_
                refine x_icmp_ge (a := k8_46) (b := 4) (tgt := 423) hx hb (by omega) (by omega) dX5_second_342 (by decide) (fun c_49 => ?_) (fun c_49 => ?_)
                · have E := x_pos E c_49
                  exact J_17 t_row_47 E  H locs ls hP hD hS (lv_sub hl [0, 1, 2] rfl)
                · have E := x_neg E c_49
                  refine lv_aload_n hx hb dX5_second_345 rfl (lv_at hl 0 rfl) ?_
                  refine va_get (ci := 5) (v := .ref tA_row) (C := RX5) (T := TX5) (N := 25) hx hb hts inlX5 hown hK.1 hP 0 rfl rfl 9 (by decide) (hts _ kw_97) (fun _ h9 => h9) rfl dX5_second_346 ?_
                  refine lv_iload hx hb dX5_second_349 (lv_at hl 2 rfl) ?_
                  refine lv_iload hx hb dX5_second_351 (lv_at hl 3 rfl) ?_
                  refine lv_iadd hx hb dX5_second_353 ?_
                  refine x_eqi (nI_add (20 * a1) k8_46) ?_
                  refine x_ialdN hx hb hK hP 2 ((20 * a1) + k8_46) rfl (by omega) (by decide) dX5_second_354 ?_
                  refine lv_bipush (v := 120) hx hb dX5_second_355 (by decide) ?_
                  refine lv_isub hx hb dX5_second_357 ?_
                  refine lv_bipush (v := 10) hx hb dX5_second_358 (by decide) ?_
                  refine lv_idiv hx hb dX5_second_360 (by decide) ?_
                  refine lv_istore (lv' := [(9, .int (((t_row_47 ((20 * a1) + k8_46)) - 120) / 10)), (0, .ref tA), (1, .int (nI a1)), (4, .int (nI (20 * a1))), (8, .int (nI k8_46))]) hx hb dX5_second_361 hl (by decide) rfl (fun ls hl => ?_)
                  refine lv_aload_n hx hb dX5_second_363 rfl (lv_at hl 1 rfl) ?_
                  refine va_get (ci := 5) (v := .ref tA_row) (C := RX5) (T := TX5) (N := 25) hx hb hts inlX5 hown hK.1 hP 0 rfl rfl 9 (by decide) (hts _ kw_97) (fun _ h9 => h9) rfl dX5_second_364 ?_
                  refine lv_iload hx hb dX5_second_367 (lv_at hl 3 rfl) ?_
                  refine lv_iconst (v := 5) hx hb dX5_second_369 (by decide) ?_
                  refine lv_iadd hx hb dX5_second_370 ?_
                  refine x_eqi (nI_add (20 * a1) 5) ?_
                  refine lv_iload hx hb dX5_second_371 (lv_at hl 4 rfl) ?_
                  refine lv_iadd hx hb dX5_second_373 ?_
                  refine x_eqi (nI_add ((20 * a1) + 5) k8_46) ?_
                  refine x_ialdN hx hb hK hP 2 (((20 * a1) + 5) + k8_46) rfl (by omega) (by decide) dX5_second_374 ?_
                  refine lv_iload hx hb dX5_second_375 (lv_at hl 0 rfl) ?_
                  obtain ⟨o_51, E_51, E⟩ := x_nm_ex E
                  have J_51 : ∀ (v_50 : Int32), o_51 = v_50 → ∀ (H : Heap) (locs : List Loc) (ls : Array Slot), va_P g.1 vwCl [(tA, .inr (5, [.int (nI t_length), .ref tA_text, .int (nI t_at), .int (nI t_begin), .int t_told, .ref tA_is, .ref tA_doings, .ref tA_doing, .int t_items, .ref tA_row, .ref tA_isKept, .int t_when, .int t_most, .int t_mostAt, .int t_hiss, .ref tA_best, .ref tA_heats, .ref tA_orders, .ref tA_has, .int (nI t_tests), .ref tA_salt, .ref tA_crumbs, .long t_traced, .int t_hasSkin, .int t_hasBend])), (tA_is, .inl (g.2.1 0, 18, .inl t_is)), (tA_row, .inl (g.2.1 0, 80, .inl t_row_47))] H → va_D A [(tA, .inr (5, [.int (nI t_length), .ref tA_text, .int (nI t_at), .int (nI t_begin), .int t_told, .ref tA_is, .ref tA_doings, .ref tA_doing, .int t_items, .ref tA_row, .ref tA_isKept, .int t_when, .int t_most, .int t_mostAt, .int t_hiss, .ref tA_best, .ref tA_heats, .ref tA_orders, .ref tA_has, .int (nI t_tests), .ref tA_salt, .ref tA_crumbs, .long t_traced, .int t_hasSkin, .int t_hasBend])), (tA_is, .inl (g.2.1 0, 18, .inl t_is)), (tA_row, .inl (g.2.1 0, 80, .inl t_row_47))] → va_S A s.heap H locs → lv_has ls 11 [(0, .ref tA), (1, .int (nI a1)), (4, .int (nI (20 * a1))), (8, .int (nI k8_46))] → W p l e rX5_second s m args below meth c H locs 0 0 Q (F0 m 386 ls [.int v_50, .int (t_row_47 (((20 * a1) + 5) + k8_46))]) := by
                    intro v_50 hE  H locs ls hP hD hS hl
                    try rw [hE] at E
                    refine lv_iadd hx hb dX5_second_386 ?_
                    refine lv_istore (lv' := [(10, .int ((t_row_47 (((20 * a1) + 5) + k8_46)) + v_50)), (0, .ref tA), (1, .int (nI a1)), (4, .int (nI (20 * a1))), (8, .int (nI k8_46))]) hx hb dX5_second_387 hl (by decide) rfl (fun ls hl => ?_)
                    refine lv_aload_n hx hb dX5_second_389 rfl (lv_at hl 1 rfl) ?_
                    refine va_get (ci := 5) (v := .ref tA_row) (C := RX5) (T := TX5) (N := 25) hx hb hts inlX5 hown hK.1 hP 0 rfl rfl 9 (by decide) (hts _ kw_97) (fun _ h9 => h9) rfl dX5_second_390 ?_
                    refine lv_iload hx hb dX5_second_393 (lv_at hl 3 rfl) ?_
                    refine lv_iconst (v := 5) hx hb dX5_second_395 (by decide) ?_
                    refine lv_iadd hx hb dX5_second_396 ?_
                    refine x_eqi (nI_add (20 * a1) 5) ?_
                    refine lv_iload hx hb dX5_second_397 (lv_at hl 4 rfl) ?_
                    refine lv_iadd hx hb dX5_second_399 ?_
                    refine x_eqi (nI_add ((20 * a1) + 5) k8_46) ?_
                    refine lv_iload hx hb dX5_second_400 (lv_at hl 0 rfl) ?_
                    refine lv_sipush (v := 999) hx hb dX5_second_402 (by decide) ?_
                    obtain ⟨o_53, E_53, E⟩ := x_nm_ex E
                    have J_53 : ∀ (v_52 : Int32), o_53 = v_52 → ∀ (H : Heap) (locs : List Loc) (ls : Array Slot), va_P g.1 vwCl [(tA, .inr (5, [.int (nI t_length), .ref tA_text, .int (nI t_at), .int (nI t_begin), .int t_told, .ref tA_is, .ref tA_doings, .ref tA_doing, .int t_items, .ref tA_row, .ref tA_isKept, .int t_when, .int t_most, .int t_mostAt, .int t_hiss, .ref tA_best, .ref tA_heats, .ref tA_orders, .ref tA_has, .int (nI t_tests), .ref tA_salt, .ref tA_crumbs, .long t_traced, .int t_hasSkin, .int t_hasBend])), (tA_is, .inl (g.2.1 0, 18, .inl t_is)), (tA_row, .inl (g.2.1 0, 80, .inl t_row_47))] H → va_D A [(tA, .inr (5, [.int (nI t_length), .ref tA_text, .int (nI t_at), .int (nI t_begin), .int t_told, .ref tA_is, .ref tA_doings, .ref tA_doing, .int t_items, .ref tA_row, .ref tA_isKept, .int t_when, .int t_most, .int t_mostAt, .int t_hiss, .ref tA_best, .ref tA_heats, .ref tA_orders, .ref tA_has, .int (nI t_tests), .ref tA_salt, .ref tA_crumbs, .long t_traced, .int t_hasSkin, .int t_hasBend])), (tA_is, .inl (g.2.1 0, 18, .inl t_is)), (tA_row, .inl (g.2.1 0, 80, .inl t_row_47))] → va_S A s.heap H locs → lv_has ls 11 [(0, .ref tA), (1, .int (nI a1)), (4, .int (nI (20 * a1))), (8, .int (nI k8_46))] → W p l e rX5_second s m args below meth c H locs 0 0 Q (F0 m 416 ls [.int v_52, .int (nI (((20 * a1) + 5) + k8_46)), .ref tA_row]) := by
                      intro v_52 hE  H locs ls hP hD hS hl
                      try rw [hE] at E
                      refine x_iastN hx hb hK hP hD hS 2 (((20 * a1) + 5) + k8_46) rfl (by omega) (by decide) dX5_second_416 (fun t_row_54 H locs hf hP hD hS => ?_)
                      have hP : va_P g.1 vwCl [(tA, .inr (5, [.int (nI t_length), .ref tA_text, .int (nI t_at), .int (nI t_begin), .int t_told, .ref tA_is, .ref tA_doings, .ref tA_doing, .int t_items, .ref tA_row, .ref tA_isKept, .int t_when, .int t_most, .int t_mostAt, .int t_hiss, .ref tA_best, .ref tA_heats, .ref tA_orders, .ref tA_has, .int (nI t_tests), .ref tA_salt, .ref tA_crumbs, .long t_traced, .int t_hasSkin, .int t_hasBend])), (tA_is, .inl (g.2.1 0, 18, .inl t_is)), (tA_row, .inl (g.2.1 0, 80, .inl t_row_54))] H := hP
                      have hD : va_D A [(tA, .inr (5, [.int (nI t_length), .ref tA_text, .int (nI t_at), .int (nI t_begin), .int t_told, .ref tA_is, .ref tA_doings, .ref tA_doing, .int t_items, .ref tA_row, .ref tA_isKept, .int t_when, .int t_most, .int t_mostAt, .int t_hiss, .ref tA_best, .ref tA_heats, .ref tA_orders, .ref tA_has, .int (nI t_tests), .ref tA_salt, .ref tA_crumbs, .long t_traced, .int t_hasSkin, .int t_hasBend])), (tA_is, .inl (g.2.1 0, 18, .inl t_is)), (tA_row, .inl (g.2.1 0, 80, .inl t_row_54))] := hD
                      have E := x_nm_eq E hf
                      refine lv_iinc (v := nI (k8_46 + 1)) (lv' := [(8, .int (nI (k8_46 + 1))), (0, .ref tA), (1, .int (nI a1)), (4, .int (nI (20 * a1)))]) hx hb dX5_second_417 hl (k := 3) rfl (nI_1 k8_46) (by decide) rfl (fun ls hl => ?_)
                      refine lv_goto (tgt := 339) hx hb dX5_second_420 (by decide) ?_
                      exact ih_48 (k8_46 + 1) t_row_54 (by first | omega | assumption | exact Eq.trans (by assumption) (by assumption)) (by omega) E H locs ls hP hD hS (lv_sub hl [1, 2, 3, 0] rfl)
                    have E := E_53
                    refine lv_icmp_le (tgt := 414) hx hb dX5_second_405 (by decide) (fun c_55 => ?_) (fun c_55 => ?_)
                    · have E := x_pos E c_55
                      refine lv_iload hx hb dX5_second_414 (lv_at hl 0 rfl) ?_
                      exact J_53 ((t_row_47 (((20 * a1) + 5) + k8_46)) + v_50) E  H locs ls hP hD hS (lv_sub hl [1, 2, 3, 4] rfl)
                    · have E := x_neg E c_55
                      refine lv_sipush (v := 999) hx hb dX5_second_408 (by decide) ?_
                      refine lv_goto (tgt := 416) hx hb dX5_second_411 (by decide) ?_
                      exact J_53 999 E  H locs ls hP hD hS (lv_sub hl [1, 2, 3, 4] rfl)
                  have E := E_51
                  refine lv_if_le (tgt := 385) hx hb dX5_second_377 (by decide) (fun c_56 => ?_) (fun c_56 => ?_)
                  · have E := x_pos E c_56
                    refine lv_iconst (v := 0) hx hb dX5_second_385 (by decide) ?_
                    exact J_51 0 E  H locs ls hP hD hS (lv_sub hl [1, 2, 3, 4] rfl)
                  · have E := x_neg E c_56
                    refine lv_iload hx hb dX5_second_380 (lv_at hl 0 rfl) ?_
                    refine lv_goto (tgt := 386) hx hb dX5_second_382 (by decide) ?_
                    exact J_51 (((t_row_47 ((20 * a1) + k8_46)) - 120) / 10) E  H locs ls hP hD hS (lv_sub hl [1, 2, 3, 4] rfl)
            exact L_48 (4 + 1) 0 t_row_15 (by first | omega | assumption | rfl) (by omega) E H locs ls hP hD hS (lv_sub hl [1, 2, 3, 0] rfl)
          have E := E_14
          refine lv_icmp_le (tgt := 334) hx hb dX5_second_315 (by decide) (fun c_57 => ?_) (fun c_57 => ?_)
          · have E := x_pos E c_57
            refine lv_iconst (v := 0) hx hb dX5_second_334 (by decide) ?_
            exact J_14 0 E  H locs ls hP hD hS (lv_sub hl [1, 2, 3] rfl)
          · have E := x_neg E c_57
            refine lv_aload_n hx hb dX5_second_318 rfl (lv_at hl 1 rfl) ?_
            refine va_get (ci := 5) (v := .ref tA_row) (C := RX5) (T := TX5) (N := 25) hx hb hts inlX5 hown hK.1 hP 0 rfl rfl 9 (by decide) (hts _ kw_97) (fun _ h9 => h9) rfl dX5_second_319 ?_
            refine lv_iload hx hb dX5_second_322 (lv_at hl 3 rfl) ?_
            refine lv_bipush (v := 9) hx hb dX5_second_324 (by decide) ?_
            refine lv_iadd hx hb dX5_second_326 ?_
            refine x_eqi (nI_add (20 * a1) 9) ?_
            refine x_ialdN hx hb hK hP 2 ((20 * a1) + 9) rfl (by omega) (by decide) dX5_second_327 ?_
            refine lv_iload hx hb dX5_second_328 (lv_at hl 0 rfl) ?_
            refine lv_isub hx hb dX5_second_330 ?_
            refine lv_goto (tgt := 335) hx hb dX5_second_331 (by decide) ?_
            exact J_14 ((t_row_10 ((20 * a1) + 9)) - (((t_row_10 ((20 * a1) + 15)) / 20) + v_11)) E  H locs ls hP hD hS (lv_sub hl [1, 2, 3] rfl)
        have E := E_12
        refine lv_icmp_le (tgt := 290) hx hb dX5_second_272 (by decide) (fun c_58 => ?_) (fun c_58 => ?_)
        · have E := x_pos E c_58
          refine lv_iconst (v := 0) hx hb dX5_second_290 (by decide) ?_
          exact J_12 0 E  H locs ls hP hD hS (lv_sub hl [0, 1, 2] rfl)
        · have E := x_neg E c_58
          refine lv_aload_n hx hb dX5_second_275 rfl (lv_at hl 0 rfl) ?_
          refine va_get (ci := 5) (v := .ref tA_row) (C := RX5) (T := TX5) (N := 25) hx hb hts inlX5 hown hK.1 hP 0 rfl rfl 9 (by decide) (hts _ kw_97) (fun _ h9 => h9) rfl dX5_second_276 ?_
          refine lv_iload hx hb dX5_second_279 (lv_at hl 2 rfl) ?_
          refine lv_bipush (v := 10) hx hb dX5_second_281 (by decide) ?_
          refine lv_iadd hx hb dX5_second_283 ?_
          refine x_eqi (nI_add (20 * a1) 10) ?_
          refine x_ialdN hx hb hK hP 2 ((20 * a1) + 10) rfl (by omega) (by decide) dX5_second_284 ?_
          refine lv_iconst (v := 3) hx hb dX5_second_285 (by decide) ?_
          refine lv_idiv hx hb dX5_second_286 (by decide) ?_
          refine lv_goto (tgt := 291) hx hb dX5_second_287 (by decide) ?_
          exact J_12 ((t_row_10 ((20 * a1) + 10)) / 3) E  H locs ls hP hD hS (lv_sub hl [0, 1, 2] rfl)
      have E := E_9
      refine lv_icmp_le (tgt := 246) hx hb dX5_second_222 (by decide) (fun c_59 => ?_) (fun c_59 => ?_)
      · have E := x_pos E c_59
        refine lv_iconst (v := 0) hx hb dX5_second_246 (by decide) ?_
        exact J_9 0 E  H locs ls hP hD hS (lv_sub hl [1, 2, 3] rfl)
      · have E := x_neg E c_59
        refine lv_aload_n hx hb dX5_second_225 rfl (lv_at hl 1 rfl) ?_
        refine va_get (ci := 5) (v := .ref tA_row) (C := RX5) (T := TX5) (N := 25) hx hb hts inlX5 hown hK.1 hP 0 rfl rfl 9 (by decide) (hts _ kw_97) (fun _ h9 => h9) rfl dX5_second_226 ?_
        refine lv_iload hx hb dX5_second_229 (lv_at hl 3 rfl) ?_
        refine lv_bipush (v := 9) hx hb dX5_second_231 (by decide) ?_
        refine lv_iadd hx hb dX5_second_233 ?_
        refine x_eqi (nI_add (20 * a1) 9) ?_
        refine x_ialdN hx hb hK hP 2 ((20 * a1) + 9) rfl (by omega) (by decide) dX5_second_234 ?_
        refine lv_if_le (tgt := 246) hx hb dX5_second_235 (by decide) (fun c_60 => ?_) (fun c_60 => ?_)
        · have E := x_pos E c_60
          refine lv_iconst (v := 0) hx hb dX5_second_246 (by decide) ?_
          exact J_9 0 E  H locs ls hP hD hS (lv_sub hl [1, 2, 3] rfl)
        · have E := x_neg E c_60
          refine lv_iload hx hb dX5_second_238 (lv_at hl 0 rfl) ?_
          refine lv_bipush (v := 100) hx hb dX5_second_240 (by decide) ?_
          refine lv_isub hx hb dX5_second_242 ?_
          refine lv_goto (tgt := 247) hx hb dX5_second_243 (by decide) ?_
          exact J_9 (v_6 - 100) E  H locs ls hP hD hS (lv_sub hl [1, 2, 3] rfl)
    have E := E_7
    refine lv_icmp_le (tgt := 205) hx hb dX5_second_190 (by decide) (fun c_61 => ?_) (fun c_61 => ?_)
    · have E := x_pos E c_61
      refine lv_iload hx hb dX5_second_205 (lv_at hl 4 rfl) ?_
      exact J_7 l6_2 E  H locs ls hP hD hS (lv_sub hl [0, 1, 2] rfl)
    · have E := x_neg E c_61
      refine lv_aload_n hx hb dX5_second_193 rfl (lv_at hl 0 rfl) ?_
      refine va_get (ci := 5) (v := .ref tA_row) (C := RX5) (T := TX5) (N := 25) hx hb hts inlX5 hown hK.1 hP 0 rfl rfl 9 (by decide) (hts _ kw_97) (fun _ h9 => h9) rfl dX5_second_194 ?_
      refine lv_iload hx hb dX5_second_197 (lv_at hl 2 rfl) ?_
      refine lv_iconst (v := 4) hx hb dX5_second_199 (by decide) ?_
      refine lv_iadd hx hb dX5_second_200 ?_
      refine x_eqi (nI_add (20 * a1) 4) ?_
      refine x_ialdN hx hb hK hP 2 ((20 * a1) + 4) rfl (by omega) (by decide) dX5_second_201 ?_
      refine lv_goto (tgt := 207) hx hb dX5_second_202 (by decide) ?_
      exact J_7 (t_row_5 ((20 * a1) + 4)) E  H locs ls hP hD hS (lv_sub hl [0, 1, 2] rfl)
  have E := E_4
  have L_66 : ∀ (n_66 : Nat) (l5_62 : Int32) (l6_63 : Int32) (k7_64 : Nat) (t_row_65 : Nat → Int32), (k7_64 ≤ 4) → ((4 - k7_64) < n_66) → o_4 = F_X5_second_L15 a1 a2 a3 n_66 l5_62 l6_63 k7_64 t_row_65 → ∀ (H : Heap) (locs : List Loc) (ls : Array Slot), va_P g.1 vwCl [(tA, .inr (5, [.int (nI t_length), .ref tA_text, .int (nI t_at), .int (nI t_begin), .int t_told, .ref tA_is, .ref tA_doings, .ref tA_doing, .int t_items, .ref tA_row, .ref tA_isKept, .int t_when, .int t_most, .int t_mostAt, .int t_hiss, .ref tA_best, .ref tA_heats, .ref tA_orders, .ref tA_has, .int (nI t_tests), .ref tA_salt, .ref tA_crumbs, .long t_traced, .int t_hasSkin, .int t_hasBend])), (tA_is, .inl (g.2.1 0, 18, .inl t_is)), (tA_row, .inl (g.2.1 0, 80, .inl t_row_65))] H → va_D A [(tA, .inr (5, [.int (nI t_length), .ref tA_text, .int (nI t_at), .int (nI t_begin), .int t_told, .ref tA_is, .ref tA_doings, .ref tA_doing, .int t_items, .ref tA_row, .ref tA_isKept, .int t_when, .int t_most, .int t_mostAt, .int t_hiss, .ref tA_best, .ref tA_heats, .ref tA_orders, .ref tA_has, .int (nI t_tests), .ref tA_salt, .ref tA_crumbs, .long t_traced, .int t_hasSkin, .int t_hasBend])), (tA_is, .inl (g.2.1 0, 18, .inl t_is)), (tA_row, .inl (g.2.1 0, 80, .inl t_row_65))] → va_S A s.heap H locs → lv_has ls 11 [(0, .ref tA), (1, .int (nI a1)), (2, .int a2), (3, .int a3), (4, .int (nI (20 * a1))), (5, .int l5_62), (6, .int l6_63), (7, .int (nI k7_64))] → W p l e rX5_second s m args below meth c H locs 0 0 Q (F0 m 15 ls []) := by
    intro n_66
    induction n_66 with
    | zero => intro l5_62 l6_63 k7_64 t_row_65 i_66_0 i_66_1; exact absurd i_66_1 (by omega)
    | succ n_66 ih_66 =>
      intro l5_62 l6_63 k7_64 t_row_65 i_66_0 i_66_1 E H locs ls hP hD hS hl
      rw [F_X5_second_L15.eq_2] at E
      refine lv_iload hx hb dX5_second_15 (lv_at hl 7 rfl) ?_
      refine lv_iconst (v := 4) hx hb dX5_second_17 (by decide) ?_
      refine x_icmp_ge (a := k7_64) (b := 4) (tgt := 143) hx hb (by omega) (by omega) dX5_second_18 (by decide) (fun c_67 => ?_) (fun c_67 => ?_)
      · have E := x_pos E c_67
        exact J_4 l5_62 l6_63 t_row_65 E  H locs ls hP hD hS (lv_sub hl [0, 1, 4, 5, 6] rfl)
      · have E := x_neg E c_67
        refine lv_aload_n hx hb dX5_second_21 rfl (lv_at hl 0 rfl) ?_
        refine va_get (ci := 5) (v := .ref tA_row) (C := RX5) (T := TX5) (N := 25) hx hb hts inlX5 hown hK.1 hP 0 rfl rfl 9 (by decide) (hts _ kw_97) (fun _ h9 => h9) rfl dX5_second_22 ?_
        refine lv_iload hx hb dX5_second_25 (lv_at hl 4 rfl) ?_
        refine lv_iload hx hb dX5_second_27 (lv_at hl 7 rfl) ?_
        refine lv_iadd hx hb dX5_second_29 ?_
        refine x_eqi (nI_add (20 * a1) k7_64) ?_
        refine x_ialdN hx hb hK hP 2 ((20 * a1) + k7_64) rfl (by omega) (by decide) dX5_second_30 ?_
        refine lv_istore (lv' := [(8, .int (t_row_65 ((20 * a1) + k7_64))), (0, .ref tA), (1, .int (nI a1)), (2, .int a2), (3, .int a3), (4, .int (nI (20 * a1))), (5, .int l5_62), (6, .int l6_63), (7, .int (nI k7_64))]) hx hb dX5_second_31 hl (by decide) rfl (fun ls hl => ?_)
        refine lv_aload_n hx hb dX5_second_33 rfl (lv_at hl 1 rfl) ?_
        refine va_get (ci := 5) (v := .ref tA_row) (C := RX5) (T := TX5) (N := 25) hx hb hts inlX5 hown hK.1 hP 0 rfl rfl 9 (by decide) (hts _ kw_97) (fun _ h9 => h9) rfl dX5_second_34 ?_
        refine lv_iload hx hb dX5_second_37 (lv_at hl 5 rfl) ?_
        refine lv_iload hx hb dX5_second_39 (lv_at hl 8 rfl) ?_
        refine lv_iadd hx hb dX5_second_41 ?_
        refine x_eqi (nI_add (20 * a1) k7_64) ?_
        refine lv_iload_n hx hb dX5_second_42 rfl (lv_at hl 4 rfl) ?_
        obtain ⟨o_69, E_69, E⟩ := x_nm_ex E
        have J_69 : ∀ (v_68 : Int32), o_69 = v_68 → ∀ (H : Heap) (locs : List Loc) (ls : Array Slot), va_P g.1 vwCl [(tA, .inr (5, [.int (nI t_length), .ref tA_text, .int (nI t_at), .int (nI t_begin), .int t_told, .ref tA_is, .ref tA_doings, .ref tA_doing, .int t_items, .ref tA_row, .ref tA_isKept, .int t_when, .int t_most, .int t_mostAt, .int t_hiss, .ref tA_best, .ref tA_heats, .ref tA_orders, .ref tA_has, .int (nI t_tests), .ref tA_salt, .ref tA_crumbs, .long t_traced, .int t_hasSkin, .int t_hasBend])), (tA_is, .inl (g.2.1 0, 18, .inl t_is)), (tA_row, .inl (g.2.1 0, 80, .inl t_row_65))] H → va_D A [(tA, .inr (5, [.int (nI t_length), .ref tA_text, .int (nI t_at), .int (nI t_begin), .int t_told, .ref tA_is, .ref tA_doings, .ref tA_doing, .int t_items, .ref tA_row, .ref tA_isKept, .int t_when, .int t_most, .int t_mostAt, .int t_hiss, .ref tA_best, .ref tA_heats, .ref tA_orders, .ref tA_has, .int (nI t_tests), .ref tA_salt, .ref tA_crumbs, .long t_traced, .int t_hasSkin, .int t_hasBend])), (tA_is, .inl (g.2.1 0, 18, .inl t_is)), (tA_row, .inl (g.2.1 0, 80, .inl t_row_65))] → va_S A s.heap H locs → lv_has ls 11 [(0, .ref tA), (1, .int (nI a1)), (2, .int a2), (3, .int a3), (4, .int (nI (20 * a1))), (5, .int l5_62), (6, .int l6_63), (7, .int (nI k7_64))] → W p l e rX5_second s m args below meth c H locs 0 0 Q (F0 m 84 ls [.int v_68, .int (nI ((20 * a1) + k7_64)), .ref tA_row]) := by
          intro v_68 hE  H locs ls hP hD hS hl
          try rw [hE] at E
          refine x_iastN hx hb hK hP hD hS 2 ((20 * a1) + k7_64) rfl (by omega) (by decide) dX5_second_84 (fun t_row_70 H locs hf hP hD hS => ?_)
          have hP : va_P g.1 vwCl [(tA, .inr (5, [.int (nI t_length), .ref tA_text, .int (nI t_at), .int (nI t_begin), .int t_told, .ref tA_is, .ref tA_doings, .ref tA_doing, .int t_items, .ref tA_row, .ref tA_isKept, .int t_when, .int t_most, .int t_mostAt, .int t_hiss, .ref tA_best, .ref tA_heats, .ref tA_orders, .ref tA_has, .int (nI t_tests), .ref tA_salt, .ref tA_crumbs, .long t_traced, .int t_hasSkin, .int t_hasBend])), (tA_is, .inl (g.2.1 0, 18, .inl t_is)), (tA_row, .inl (g.2.1 0, 80, .inl t_row_70))] H := hP
          have hD : va_D A [(tA, .inr (5, [.int (nI t_length), .ref tA_text, .int (nI t_at), .int (nI t_begin), .int t_told, .ref tA_is, .ref tA_doings, .ref tA_doing, .int t_items, .ref tA_row, .ref tA_isKept, .int t_when, .int t_most, .int t_mostAt, .int t_hiss, .ref tA_best, .ref tA_heats, .ref tA_orders, .ref tA_has, .int (nI t_tests), .ref tA_salt, .ref tA_crumbs, .long t_traced, .int t_hasSkin, .int t_hasBend])), (tA_is, .inl (g.2.1 0, 18, .inl t_is)), (tA_row, .inl (g.2.1 0, 80, .inl t_row_70))] := hD
          have E := x_nm_eq E hf
          refine lv_iload hx hb dX5_second_85 (lv_at hl 5 rfl) ?_
          refine lv_aload_n hx hb dX5_second_87 rfl (lv_at hl 0 rfl) ?_
          refine va_get (ci := 5) (v := .ref tA_row) (C := RX5) (T := TX5) (N := 25) hx hb hts inlX5 hown hK.1 hP 0 rfl rfl 9 (by decide) (hts _ kw_97) (fun _ h9 => h9) rfl dX5_second_88 ?_
          refine lv_iload hx hb dX5_second_91 (lv_at hl 4 rfl) ?_
          refine lv_iload hx hb dX5_second_93 (lv_at hl 7 rfl) ?_
          refine lv_iadd hx hb dX5_second_95 ?_
          refine x_eqi (nI_add (20 * a1) k7_64) ?_
          refine x_ialdN hx hb hK hP 2 ((20 * a1) + k7_64) rfl (by omega) (by decide) dX5_second_96 ?_
          refine lv_iadd hx hb dX5_second_97 ?_
          refine lv_istore (lv' := [(5, .int (l5_62 + (t_row_70 ((20 * a1) + k7_64)))), (0, .ref tA), (1, .int (nI a1)), (2, .int a2), (3, .int a3), (4, .int (nI (20 * a1))), (6, .int l6_63), (7, .int (nI k7_64))]) hx hb dX5_second_98 hl (by decide) rfl (fun ls hl => ?_)
          refine lv_iload hx hb dX5_second_100 (lv_at hl 7 rfl) ?_
          obtain ⟨o_72, E_72, E⟩ := x_nm_ex E
          have J_72 : ∀ (v_71 : Int32), o_72 = v_71 → ∀ (H : Heap) (locs : List Loc) (ls : Array Slot), va_P g.1 vwCl [(tA, .inr (5, [.int (nI t_length), .ref tA_text, .int (nI t_at), .int (nI t_begin), .int t_told, .ref tA_is, .ref tA_doings, .ref tA_doing, .int t_items, .ref tA_row, .ref tA_isKept, .int t_when, .int t_most, .int t_mostAt, .int t_hiss, .ref tA_best, .ref tA_heats, .ref tA_orders, .ref tA_has, .int (nI t_tests), .ref tA_salt, .ref tA_crumbs, .long t_traced, .int t_hasSkin, .int t_hasBend])), (tA_is, .inl (g.2.1 0, 18, .inl t_is)), (tA_row, .inl (g.2.1 0, 80, .inl t_row_70))] H → va_D A [(tA, .inr (5, [.int (nI t_length), .ref tA_text, .int (nI t_at), .int (nI t_begin), .int t_told, .ref tA_is, .ref tA_doings, .ref tA_doing, .int t_items, .ref tA_row, .ref tA_isKept, .int t_when, .int t_most, .int t_mostAt, .int t_hiss, .ref tA_best, .ref tA_heats, .ref tA_orders, .ref tA_has, .int (nI t_tests), .ref tA_salt, .ref tA_crumbs, .long t_traced, .int t_hasSkin, .int t_hasBend])), (tA_is, .inl (g.2.1 0, 18, .inl t_is)), (tA_row, .inl (g.2.1 0, 80, .inl t_row_70))] → va_S A s.heap H locs → lv_has ls 11 [(0, .ref tA), (1, .int (nI a1)), (2, .int a2), (3, .int a3), (4, .int (nI (20 * a1))), (5, .int (l5_62 + (t_row_70 ((20 * a1) + k7_64)))), (7, .int (nI k7_64))] → W p l e rX5_second s m args below meth c H locs 0 0 Q (F0 m 135 ls [.int v_71]) := by
            intro v_71 hE  H locs ls hP hD hS hl
            try rw [hE] at E
            refine lv_istore (lv' := [(6, .int v_71), (0, .ref tA), (1, .int (nI a1)), (2, .int a2), (3, .int a3), (4, .int (nI (20 * a1))), (5, .int (l5_62 + (t_row_70 ((20 * a1) + k7_64)))), (7, .int (nI k7_64))]) hx hb dX5_second_135 hl (by decide) rfl (fun ls hl => ?_)
            refine lv_iinc (v := nI (k7_64 + 1)) (lv' := [(7, .int (nI (k7_64 + 1))), (6, .int v_71), (0, .ref tA), (1, .int (nI a1)), (2, .int a2), (3, .int a3), (4, .int (nI (20 * a1))), (5, .int (l5_62 + (t_row_70 ((20 * a1) + k7_64))))]) hx hb dX5_second_137 hl (k := 7) rfl (nI_1 k7_64) (by decide) rfl (fun ls hl => ?_)
            refine lv_goto (tgt := 15) hx hb dX5_second_140 (by decide) ?_
            exact ih_66 (l5_62 + (t_row_70 ((20 * a1) + k7_64))) v_71 (k7_64 + 1) t_row_70 (by first | omega | assumption | exact Eq.trans (by assumption) (by assumption)) (by omega) E H locs ls hP hD hS (lv_sub hl [2, 3, 4, 5, 6, 7, 1, 0] rfl)
          have E := E_72
          refine x_if_eq (a := k7_64) (tgt := 120) hx hb (by omega) dX5_second_102 (by decide) (fun c_73 => ?_) (fun c_73 => ?_)
          · have E := x_pos E c_73
            refine lv_aload_n hx hb dX5_second_120 rfl (lv_at hl 1 rfl) ?_
            refine va_get (ci := 5) (v := .ref tA_row) (C := RX5) (T := TX5) (N := 25) hx hb hts inlX5 hown hK.1 hP 0 rfl rfl 9 (by decide) (hts _ kw_97) (fun _ h9 => h9) rfl dX5_second_121 ?_
            refine lv_iload hx hb dX5_second_124 (lv_at hl 5 rfl) ?_
            refine lv_iload hx hb dX5_second_126 (lv_at hl 7 rfl) ?_
            refine lv_iadd hx hb dX5_second_128 ?_
            refine x_eqi (nI_add (20 * a1) k7_64) ?_
            refine x_ialdN hx hb hK hP 2 ((20 * a1) + k7_64) rfl (by omega) (by decide) dX5_second_129 ?_
            refine lv_goto (tgt := 135) hx hb dX5_second_130 (by decide) ?_
            exact J_72 (t_row_70 ((20 * a1) + k7_64)) E  H locs ls hP hD hS (lv_sub hl [1, 2, 3, 4, 5, 0, 7] rfl)
          · have E := x_neg E c_73
            refine lv_aload_n hx hb dX5_second_105 rfl (lv_at hl 1 rfl) ?_
            refine va_get (ci := 5) (v := .ref tA_row) (C := RX5) (T := TX5) (N := 25) hx hb hts inlX5 hown hK.1 hP 0 rfl rfl 9 (by decide) (hts _ kw_97) (fun _ h9 => h9) rfl dX5_second_106 ?_
            refine lv_iload hx hb dX5_second_109 (lv_at hl 5 rfl) ?_
            refine lv_iload hx hb dX5_second_111 (lv_at hl 7 rfl) ?_
            refine lv_iadd hx hb dX5_second_113 ?_
            refine x_eqi (nI_add (20 * a1) k7_64) ?_
            refine x_ialdN hx hb hK hP 2 ((20 * a1) + k7_64) rfl (by omega) (by decide) dX5_second_114 ?_
            refine lv_iload hx hb dX5_second_115 (lv_at hl 6 rfl) ?_
            refine lv_icmp_le (tgt := 133) hx hb dX5_second_117 (by decide) (fun c_74 => ?_) (fun c_74 => ?_)
            · have E := x_pos E c_74
              refine lv_iload hx hb dX5_second_133 (lv_at hl 6 rfl) ?_
              exact J_72 l6_63 E  H locs ls hP hD hS (lv_sub hl [1, 2, 3, 4, 5, 0, 7] rfl)
            · have E := x_neg E c_74
              refine lv_aload_n hx hb dX5_second_120 rfl (lv_at hl 1 rfl) ?_
              refine va_get (ci := 5) (v := .ref tA_row) (C := RX5) (T := TX5) (N := 25) hx hb hts inlX5 hown hK.1 hP 0 rfl rfl 9 (by decide) (hts _ kw_97) (fun _ h9 => h9) rfl dX5_second_121 ?_
              refine lv_iload hx hb dX5_second_124 (lv_at hl 5 rfl) ?_
              refine lv_iload hx hb dX5_second_126 (lv_at hl 7 rfl) ?_
              refine lv_iadd hx hb dX5_second_128 ?_
              refine x_eqi (nI_add (20 * a1) k7_64) ?_
              refine x_ialdN hx hb hK hP 2 ((20 * a1) + k7_64) rfl (by omega) (by decide) dX5_second_129 ?_
              refine lv_goto (tgt := 135) hx hb dX5_second_130 (by decide) ?_
              exact J_72 (t_row_70 ((20 * a1) + k7_64)) E  H locs ls hP hD hS (lv_sub hl [1, 2, 3, 4, 5, 0, 7] rfl)
        have E := E_69
        refine x_if_neI (tgt := 61) hx hb dX5_second_43 (by decide) (fun c_75 => ?_) (fun c_75 => ?_)
        · have E := x_neg E c_75
          refine lv_iload hx hb dX5_second_61 (lv_at hl 0 rfl) ?_
          refine lv_iload_n hx hb dX5_second_63 rfl (lv_at hl 3 rfl) ?_
          refine lv_iload hx hb dX5_second_64 (lv_at hl 0 rfl) ?_
          refine lv_isub hx hb dX5_second_66 ?_
          refine lv_iconst (v := 4) hx hb dX5_second_67 (by decide) ?_
          refine lv_idiv hx hb dX5_second_68 (by decide) ?_
          refine lv_iadd hx hb dX5_second_69 ?_
          refine lv_goto (tgt := 84) hx hb dX5_second_70 (by decide) ?_
          exact J_69 ((t_row_65 ((20 * a1) + k7_64)) + ((a2 - (t_row_65 ((20 * a1) + k7_64))) / 4)) E  H locs ls hP hD hS (lv_sub hl [1, 2, 3, 4, 5, 6, 7, 8] rfl)
        · have E := x_pos E c_75
          refine lv_iload hx hb dX5_second_46 (lv_at hl 8 rfl) ?_
          refine lv_aload_n hx hb dX5_second_48 rfl (lv_at hl 1 rfl) ?_
          refine va_get (ci := 5) (v := .ref tA_row) (C := RX5) (T := TX5) (N := 25) hx hb hts inlX5 hown hK.1 hP 0 rfl rfl 9 (by decide) (hts _ kw_97) (fun _ h9 => h9) rfl dX5_second_49 ?_
          refine lv_iload hx hb dX5_second_52 (lv_at hl 5 rfl) ?_
          refine lv_bipush (v := 16) hx hb dX5_second_54 (by decide) ?_
          refine lv_iadd hx hb dX5_second_56 ?_
          refine x_eqi (nI_add (20 * a1) 16) ?_
          refine x_ialdN hx hb hK hP 2 ((20 * a1) + 16) rfl (by omega) (by decide) dX5_second_57 ?_
          refine x_icmp_neI (tgt := 73) hx hb dX5_second_58 (by decide) (fun c_76 => ?_) (fun c_76 => ?_)
          · have E := x_neg E c_76
            refine lv_iload hx hb dX5_second_73 (lv_at hl 0 rfl) ?_
            refine lv_iload hx hb dX5_second_75 (lv_at hl 0 rfl) ?_
            refine lv_bipush (v := 20) hx hb dX5_second_77 (by decide) ?_
            refine lv_isub hx hb dX5_second_79 ?_
            refine lv_bipush (v := 16) hx hb dX5_second_80 (by decide) ?_
            refine lv_idiv hx hb dX5_second_82 (by decide) ?_
            refine lv_isub hx hb dX5_second_83 ?_
            exact J_69 ((t_row_65 ((20 * a1) + k7_64)) - (((t_row_65 ((20 * a1) + k7_64)) - 20) / 16)) E  H locs ls hP hD hS (lv_sub hl [1, 2, 3, 4, 5, 6, 7, 8] rfl)
          · have E := x_pos E c_76
            refine lv_iload hx hb dX5_second_61 (lv_at hl 0 rfl) ?_
            refine lv_iload_n hx hb dX5_second_63 rfl (lv_at hl 3 rfl) ?_
            refine lv_iload hx hb dX5_second_64 (lv_at hl 0 rfl) ?_
            refine lv_isub hx hb dX5_second_66 ?_
            refine lv_iconst (v := 4) hx hb dX5_second_67 (by decide) ?_
            refine lv_idiv hx hb dX5_second_68 (by decide) ?_
            refine lv_iadd hx hb dX5_second_69 ?_
            refine lv_goto (tgt := 84) hx hb dX5_second_70 (by decide) ?_
            exact J_69 ((t_row_65 ((20 * a1) + k7_64)) + ((a2 - (t_row_65 ((20 * a1) + k7_64))) / 4)) E  H locs ls hP hD hS (lv_sub hl [1, 2, 3, 4, 5, 6, 7, 8] rfl)
  exact L_66 (4 + 1) 0 0 0 t_row (by first | omega | assumption | rfl) (by omega) E H locs ls hP hD hS (lv_sub hl [4, 5, 6, 7, 3, 2, 1, 0] rfl)
abbrev rX5_turns : Room := { frames := 0, cells := 0, slots := 0, locals := 0 }
theorem vX5_turns : yX5_turns.cls = RX5 ∧ yX5_turns.cls ≠ "java/lang/invoke/MethodHandle" ∧ yX5_turns.cls ≠ "java/lang/invoke/VarHandle" ∧ (parseMethodDescriptor yX5_turns.desc).map (fun d => d.parameters.length) = some 2 := by decide +kernel
abbrev wX5_turns : List Cond := Cond.code yX5_turns cX5_turns 3 none :: wsL_law
def F_X5_turns (t_row : Nat → Int32) (a1 : Nat) (a2 : Int32) : (Nat → Int32) :=
  x_nm (upd t_row ((20 * a1) + 16) (((t_row ((20 * a1) + 16)) + a2) - ((t_row ((20 * a1) + 16)) + a2) / 4 * 4)) fun t_row_1 => t_row_1
set_option maxHeartbeats 4000000 in
set_option maxRecDepth 100000 in
theorem m_X5_turns (l : Launch) (g : x_G) (tA tA_row tA_text tA_is tA_doings tA_doing tA_isKept tA_best tA_heats tA_orders tA_has tA_salt tA_crumbs : Nat) (t_length : Nat) (t_at : Nat) (t_begin : Nat) (t_told : Int32) (t_items : Int32) (t_when : Int32) (t_most : Int32) (t_mostAt : Int32) (t_hiss : Int32) (t_tests : Nat) (t_traced : Int64) (t_hasSkin : Int32) (t_hasBend : Int32) (t_row : Nat → Int32) (a1 : Nat) (a2 : Int32) (h_0 : a1 < 4) : x_MetV l yX5_turns wX5_turns rX5_turns g [.ref tA, .int (nI a1), .int a2] [(tA, .inr (5, [.int (nI t_length), .ref tA_text, .int (nI t_at), .int (nI t_begin), .int t_told, .ref tA_is, .ref tA_doings, .ref tA_doing, .int t_items, .ref tA_row, .ref tA_isKept, .int t_when, .int t_most, .int t_mostAt, .int t_hiss, .ref tA_best, .ref tA_heats, .ref tA_orders, .ref tA_has, .int (nI t_tests), .ref tA_salt, .ref tA_crumbs, .long t_traced, .int t_hasSkin, .int t_hasBend])), (tA_row, .inl (g.2.1 0, 80, .inl t_row))] (fun u : (Nat → Int32) => u = F_X5_turns t_row a1 a2) (fun u => [(tA, .inr (5, [.int (nI t_length), .ref tA_text, .int (nI t_at), .int (nI t_begin), .int t_told, .ref tA_is, .ref tA_doings, .ref tA_doing, .int t_items, .ref tA_row, .ref tA_isKept, .int t_when, .int t_most, .int t_mostAt, .int t_hiss, .ref tA_best, .ref tA_heats, .ref tA_orders, .ref tA_has, .int (nI t_tests), .ref tA_salt, .ref tA_crumbs, .long t_traced, .int t_hasSkin, .int t_hasBend])), (tA_row, .inl (g.2.1 0, 80, .inl u))]) := by
  refine x_startV (cc := cX5_turns) (maxL := 3) (by decide) rfl (Nat.le_of_ble_eq_true rfl) ?_
  intro p e s m args below meth c Q A ls H locs hx hb hml hown hts hK hX hP hD hS hA hl RET
  have hown : s.vm.findClass RX5 = some m.cls := hown
  have hl : lv_has ls 3 [(0, .ref tA), (1, .int (nI a1)), (2, .int a2)] := hl
  obtain ⟨o_0, hO⟩ : ∃ z, z = F_X5_turns t_row a1 a2 := ⟨_, rfl⟩
  have E := hO
  rw [F_X5_turns.eq_1] at E
  refine lv_aload_n hx hb dX5_turns_0 rfl (lv_at hl 0 rfl) ?_
  refine va_get (ci := 5) (v := .ref tA_row) (C := RX5) (T := TX5) (N := 25) hx hb hts inlX5 hown hK.1 hP 0 rfl rfl 9 (by decide) (hts _ kw_97) (fun _ h9 => h9) rfl dX5_turns_1 ?_
  refine lv_bipush (v := 20) hx hb dX5_turns_4 (by decide) ?_
  refine lv_iload_n hx hb dX5_turns_6 rfl (lv_at hl 1 rfl) ?_
  refine lv_imul hx hb dX5_turns_7 ?_
  refine x_eqi (pk_mul 20 a1) ?_
  refine lv_bipush (v := 16) hx hb dX5_turns_8 (by decide) ?_
  refine lv_iadd hx hb dX5_turns_10 ?_
  refine x_eqi (nI_add (20 * a1) 16) ?_
  refine lv_aload_n hx hb dX5_turns_11 rfl (lv_at hl 0 rfl) ?_
  refine va_get (ci := 5) (v := .ref tA_row) (C := RX5) (T := TX5) (N := 25) hx hb hts inlX5 hown hK.1 hP 0 rfl rfl 9 (by decide) (hts _ kw_97) (fun _ h9 => h9) rfl dX5_turns_12 ?_
  refine lv_bipush (v := 20) hx hb dX5_turns_15 (by decide) ?_
  refine lv_iload_n hx hb dX5_turns_17 rfl (lv_at hl 1 rfl) ?_
  refine lv_imul hx hb dX5_turns_18 ?_
  refine x_eqi (pk_mul 20 a1) ?_
  refine lv_bipush (v := 16) hx hb dX5_turns_19 (by decide) ?_
  refine lv_iadd hx hb dX5_turns_21 ?_
  refine x_eqi (nI_add (20 * a1) 16) ?_
  refine x_ialdN hx hb hK hP 1 ((20 * a1) + 16) rfl (by omega) (by decide) dX5_turns_22 ?_
  refine lv_iload_n hx hb dX5_turns_23 rfl (lv_at hl 2 rfl) ?_
  refine lv_iadd hx hb dX5_turns_24 ?_
  refine lv_iconst (v := 4) hx hb dX5_turns_25 (by decide) ?_
  refine lv_irem hx hb dX5_turns_26 (by decide) ?_
  refine x_iastN hx hb hK hP hD hS 1 ((20 * a1) + 16) rfl (by omega) (by decide) dX5_turns_27 (fun t_row_1 H locs hf hP hD hS => ?_)
  have hP : va_P g.1 vwCl [(tA, .inr (5, [.int (nI t_length), .ref tA_text, .int (nI t_at), .int (nI t_begin), .int t_told, .ref tA_is, .ref tA_doings, .ref tA_doing, .int t_items, .ref tA_row, .ref tA_isKept, .int t_when, .int t_most, .int t_mostAt, .int t_hiss, .ref tA_best, .ref tA_heats, .ref tA_orders, .ref tA_has, .int (nI t_tests), .ref tA_salt, .ref tA_crumbs, .long t_traced, .int t_hasSkin, .int t_hasBend])), (tA_row, .inl (g.2.1 0, 80, .inl t_row_1))] H := hP
  have hD : va_D A [(tA, .inr (5, [.int (nI t_length), .ref tA_text, .int (nI t_at), .int (nI t_begin), .int t_told, .ref tA_is, .ref tA_doings, .ref tA_doing, .int t_items, .ref tA_row, .ref tA_isKept, .int t_when, .int t_most, .int t_mostAt, .int t_hiss, .ref tA_best, .ref tA_heats, .ref tA_orders, .ref tA_has, .int (nI t_tests), .ref tA_salt, .ref tA_crumbs, .long t_traced, .int t_hasSkin, .int t_hasBend])), (tA_row, .inl (g.2.1 0, 80, .inl t_row_1))] := hD
  have E := x_nm_eq E hf
  exact RET t_row_1 H locs _ _ (E.symm.trans hO) hP hD hS dX5_turns_28
abbrev rX5_pricked : Room := { frames := 0, cells := 0, slots := 0, locals := 0 }
theorem vX5_pricked : yX5_pricked.cls = RX5 ∧ yX5_pricked.cls ≠ "java/lang/invoke/MethodHandle" ∧ yX5_pricked.cls ≠ "java/lang/invoke/VarHandle" ∧ (parseMethodDescriptor yX5_pricked.desc).map (fun d => d.parameters.length) = some 2 := by decide +kernel
abbrev wX5_pricked : List Cond := Cond.code yX5_pricked cX5_pricked 4 none :: wsL_law
def F_X5_pricked (t_row : Nat → Int32) (a1 : Nat) (a2 : Int32) : (Nat → Int32) :=
  x_nm (α := Int32) (if ((t_row ((20 * a1) + 10)) + a2) ≤ 99 then (t_row ((20 * a1) + 10)) + a2 else 99) fun u_2 => x_nm (upd t_row ((20 * a1) + 10) u_2) fun t_row_3 => t_row_3
set_option maxHeartbeats 4000000 in
set_option maxRecDepth 100000 in
theorem m_X5_pricked (l : Launch) (g : x_G) (tA tA_row tA_text tA_is tA_doings tA_doing tA_isKept tA_best tA_heats tA_orders tA_has tA_salt tA_crumbs : Nat) (t_length : Nat) (t_at : Nat) (t_begin : Nat) (t_told : Int32) (t_items : Int32) (t_when : Int32) (t_most : Int32) (t_mostAt : Int32) (t_hiss : Int32) (t_tests : Nat) (t_traced : Int64) (t_hasSkin : Int32) (t_hasBend : Int32) (t_row : Nat → Int32) (a1 : Nat) (a2 : Int32) (h_0 : a1 < 4) : x_MetV l yX5_pricked wX5_pricked rX5_pricked g [.ref tA, .int (nI a1), .int a2] [(tA, .inr (5, [.int (nI t_length), .ref tA_text, .int (nI t_at), .int (nI t_begin), .int t_told, .ref tA_is, .ref tA_doings, .ref tA_doing, .int t_items, .ref tA_row, .ref tA_isKept, .int t_when, .int t_most, .int t_mostAt, .int t_hiss, .ref tA_best, .ref tA_heats, .ref tA_orders, .ref tA_has, .int (nI t_tests), .ref tA_salt, .ref tA_crumbs, .long t_traced, .int t_hasSkin, .int t_hasBend])), (tA_row, .inl (g.2.1 0, 80, .inl t_row))] (fun u : (Nat → Int32) => u = F_X5_pricked t_row a1 a2) (fun u => [(tA, .inr (5, [.int (nI t_length), .ref tA_text, .int (nI t_at), .int (nI t_begin), .int t_told, .ref tA_is, .ref tA_doings, .ref tA_doing, .int t_items, .ref tA_row, .ref tA_isKept, .int t_when, .int t_most, .int t_mostAt, .int t_hiss, .ref tA_best, .ref tA_heats, .ref tA_orders, .ref tA_has, .int (nI t_tests), .ref tA_salt, .ref tA_crumbs, .long t_traced, .int t_hasSkin, .int t_hasBend])), (tA_row, .inl (g.2.1 0, 80, .inl u))]) := by
  refine x_startV (cc := cX5_pricked) (maxL := 4) (by decide) rfl (Nat.le_of_ble_eq_true rfl) ?_
  intro p e s m args below meth c Q A ls H locs hx hb hml hown hts hK hX hP hD hS hA hl RET
  have hown : s.vm.findClass RX5 = some m.cls := hown
  have hl : lv_has ls 4 [(0, .ref tA), (1, .int (nI a1)), (2, .int a2)] := hl
  obtain ⟨o_0, hO⟩ : ∃ z, z = F_X5_pricked t_row a1 a2 := ⟨_, rfl⟩
  have E := hO
  rw [F_X5_pricked.eq_1] at E
  refine lv_aload_n hx hb dX5_pricked_0 rfl (lv_at hl 0 rfl) ?_
  refine va_get (ci := 5) (v := .ref tA_row) (C := RX5) (T := TX5) (N := 25) hx hb hts inlX5 hown hK.1 hP 0 rfl rfl 9 (by decide) (hts _ kw_97) (fun _ h9 => h9) rfl dX5_pricked_1 ?_
  refine lv_bipush (v := 20) hx hb dX5_pricked_4 (by decide) ?_
  refine lv_iload_n hx hb dX5_pricked_6 rfl (lv_at hl 1 rfl) ?_
  refine lv_imul hx hb dX5_pricked_7 ?_
  refine x_eqi (pk_mul 20 a1) ?_
  refine lv_bipush (v := 10) hx hb dX5_pricked_8 (by decide) ?_
  refine lv_iadd hx hb dX5_pricked_10 ?_
  refine x_eqi (nI_add (20 * a1) 10) ?_
  refine x_ialdN hx hb hK hP 1 ((20 * a1) + 10) rfl (by omega) (by decide) dX5_pricked_11 ?_
  refine lv_iload_n hx hb dX5_pricked_12 rfl (lv_at hl 2 rfl) ?_
  refine lv_iadd hx hb dX5_pricked_13 ?_
  refine lv_istore_n (lv' := [(3, .int ((t_row ((20 * a1) + 10)) + a2)), (0, .ref tA), (1, .int (nI a1)), (2, .int a2)]) hx hb dX5_pricked_14 rfl hl (by decide) rfl (fun ls hl => ?_)
  refine lv_aload_n hx hb dX5_pricked_15 rfl (lv_at hl 1 rfl) ?_
  refine va_get (ci := 5) (v := .ref tA_row) (C := RX5) (T := TX5) (N := 25) hx hb hts inlX5 hown hK.1 hP 0 rfl rfl 9 (by decide) (hts _ kw_97) (fun _ h9 => h9) rfl dX5_pricked_16 ?_
  refine lv_bipush (v := 20) hx hb dX5_pricked_19 (by decide) ?_
  refine lv_iload_n hx hb dX5_pricked_21 rfl (lv_at hl 2 rfl) ?_
  refine lv_imul hx hb dX5_pricked_22 ?_
  refine x_eqi (pk_mul 20 a1) ?_
  refine lv_bipush (v := 10) hx hb dX5_pricked_23 (by decide) ?_
  refine lv_iadd hx hb dX5_pricked_25 ?_
  refine x_eqi (nI_add (20 * a1) 10) ?_
  refine lv_iload_n hx hb dX5_pricked_26 rfl (lv_at hl 0 rfl) ?_
  refine lv_bipush (v := 99) hx hb dX5_pricked_27 (by decide) ?_
  obtain ⟨o_2, E_2, E⟩ := x_nm_ex E
  have J_2 : ∀ (v_1 : Int32), o_2 = v_1 → ∀ (H : Heap) (locs : List Loc) (ls : Array Slot), va_P g.1 vwCl [(tA, .inr (5, [.int (nI t_length), .ref tA_text, .int (nI t_at), .int (nI t_begin), .int t_told, .ref tA_is, .ref tA_doings, .ref tA_doing, .int t_items, .ref tA_row, .ref tA_isKept, .int t_when, .int t_most, .int t_mostAt, .int t_hiss, .ref tA_best, .ref tA_heats, .ref tA_orders, .ref tA_has, .int (nI t_tests), .ref tA_salt, .ref tA_crumbs, .long t_traced, .int t_hasSkin, .int t_hasBend])), (tA_row, .inl (g.2.1 0, 80, .inl t_row))] H → va_D A [(tA, .inr (5, [.int (nI t_length), .ref tA_text, .int (nI t_at), .int (nI t_begin), .int t_told, .ref tA_is, .ref tA_doings, .ref tA_doing, .int t_items, .ref tA_row, .ref tA_isKept, .int t_when, .int t_most, .int t_mostAt, .int t_hiss, .ref tA_best, .ref tA_heats, .ref tA_orders, .ref tA_has, .int (nI t_tests), .ref tA_salt, .ref tA_crumbs, .long t_traced, .int t_hasSkin, .int t_hasBend])), (tA_row, .inl (g.2.1 0, 80, .inl t_row))] → va_S A s.heap H locs → lv_has ls 4 [] → W p l e rX5_pricked s m args below meth c H locs 0 0 Q (F0 m 38 ls [.int v_1, .int (nI ((20 * a1) + 10)), .ref tA_row]) := by
    intro v_1 hE  H locs ls hP hD hS hl
    try rw [hE] at E
    refine x_iastN hx hb hK hP hD hS 1 ((20 * a1) + 10) rfl (by omega) (by decide) dX5_pricked_38 (fun t_row_3 H locs hf hP hD hS => ?_)
    have hP : va_P g.1 vwCl [(tA, .inr (5, [.int (nI t_length), .ref tA_text, .int (nI t_at), .int (nI t_begin), .int t_told, .ref tA_is, .ref tA_doings, .ref tA_doing, .int t_items, .ref tA_row, .ref tA_isKept, .int t_when, .int t_most, .int t_mostAt, .int t_hiss, .ref tA_best, .ref tA_heats, .ref tA_orders, .ref tA_has, .int (nI t_tests), .ref tA_salt, .ref tA_crumbs, .long t_traced, .int t_hasSkin, .int t_hasBend])), (tA_row, .inl (g.2.1 0, 80, .inl t_row_3))] H := hP
    have hD : va_D A [(tA, .inr (5, [.int (nI t_length), .ref tA_text, .int (nI t_at), .int (nI t_begin), .int t_told, .ref tA_is, .ref tA_doings, .ref tA_doing, .int t_items, .ref tA_row, .ref tA_isKept, .int t_when, .int t_most, .int t_mostAt, .int t_hiss, .ref tA_best, .ref tA_heats, .ref tA_orders, .ref tA_has, .int (nI t_tests), .ref tA_salt, .ref tA_crumbs, .long t_traced, .int t_hasSkin, .int t_hasBend])), (tA_row, .inl (g.2.1 0, 80, .inl t_row_3))] := hD
    have E := x_nm_eq E hf
    exact RET t_row_3 H locs _ _ (E.symm.trans hO) hP hD hS dX5_pricked_39
  have E := E_2
  refine lv_icmp_le (tgt := 37) hx hb dX5_pricked_29 (by decide) (fun c_4 => ?_) (fun c_4 => ?_)
  · have E := x_pos E c_4
    refine lv_iload_n hx hb dX5_pricked_37 rfl (lv_at hl 0 rfl) ?_
    exact J_2 ((t_row ((20 * a1) + 10)) + a2) E  H locs ls hP hD hS (lv_sub hl [] rfl)
  · have E := x_neg E c_4
    refine lv_bipush (v := 99) hx hb dX5_pricked_32 (by decide) ?_
    refine lv_goto (tgt := 38) hx hb dX5_pricked_34 (by decide) ?_
    exact J_2 99 E  H locs ls hP hD hS (lv_sub hl [] rfl)
abbrev rX5_fire : Room := { frames := 2, cells := 0, slots := 0, locals := 55 }
theorem vX5_fire : yX5_fire.cls = RX5 ∧ yX5_fire.cls ≠ "java/lang/invoke/MethodHandle" ∧ yX5_fire.cls ≠ "java/lang/invoke/VarHandle" ∧ (parseMethodDescriptor yX5_fire.desc).map (fun d => d.parameters.length) = some 2 := by decide +kernel
abbrev wX5_fire : List Cond := Cond.code yX5_fire cX5_fire 4 (some .int) :: wsL_law
def F_X5_fire_L28 (t_is : Nat → Int32) (j_7 : Nat) (j_14 : Nat) : Nat → Nat → (Nat → Int32) → (Nat → Int32)
  | 0, k3_17, t_row_18 => t_row_18
  | n_19 + 1, k3_17, t_row_18 => if j_14 ≤ k3_17 then t_row_18 else x_nm (F_X5_second t_is t_row_18 0 (nI j_7) 0) fun t_row_21 => F_X5_fire_L28 t_is j_7 j_14 n_19 (k3_17 + 1) t_row_21
def F_X5_fire (t_is : Nat → Int32) (t_row : Nat → Int32) (a1 : Int32) (a2 : Int32) : Int32 × (Nat → Int32) :=
  x_nm (F_X5_in a1.toInt64 0 300) fun z_1 => if z_1 = 0 then ((-1), t_row) else x_nm (a1.toNatClampNeg) fun j_7 => x_nm (F_X5_in a2.toInt64 1 99) fun z_8 => if z_8 = 0 then ((-1), t_row) else x_nm (a2.toNatClampNeg) fun j_14 => x_nm (α := (Nat → Int32)) (F_X5_fire_L28 t_is j_7 j_14 (j_14 + 1) 0 t_row) fun u_16 => (u_16 13, u_16)
set_option maxHeartbeats 4000000 in
set_option maxRecDepth 100000 in
theorem m_X5_fire (l : Launch) (g : x_G) (tA tA_is tA_row tA_text tA_doings tA_doing tA_isKept tA_best tA_heats tA_orders tA_has tA_salt tA_crumbs : Nat) (t_length : Nat) (t_at : Nat) (t_begin : Nat) (t_told : Int32) (t_items : Int32) (t_when : Int32) (t_most : Int32) (t_mostAt : Int32) (t_hiss : Int32) (t_tests : Nat) (t_traced : Int64) (t_hasSkin : Int32) (t_hasBend : Int32) (t_is : Nat → Int32) (t_row : Nat → Int32) (a1 : Int32) (a2 : Int32) (h_0 : ¬ 8 * t_is 0 = 0) : x_MetI l yX5_fire wX5_fire rX5_fire g [.ref tA, .int a1, .int a2] [(tA, .inr (5, [.int (nI t_length), .ref tA_text, .int (nI t_at), .int (nI t_begin), .int t_told, .ref tA_is, .ref tA_doings, .ref tA_doing, .int t_items, .ref tA_row, .ref tA_isKept, .int t_when, .int t_most, .int t_mostAt, .int t_hiss, .ref tA_best, .ref tA_heats, .ref tA_orders, .ref tA_has, .int (nI t_tests), .ref tA_salt, .ref tA_crumbs, .long t_traced, .int t_hasSkin, .int t_hasBend])), (tA_is, .inl (g.2.1 0, 18, .inl t_is)), (tA_row, .inl (g.2.1 0, 80, .inl t_row))] (fun (r : Int32) (u : (Nat → Int32)) => (r, u) = F_X5_fire t_is t_row a1 a2) (fun u => [(tA, .inr (5, [.int (nI t_length), .ref tA_text, .int (nI t_at), .int (nI t_begin), .int t_told, .ref tA_is, .ref tA_doings, .ref tA_doing, .int t_items, .ref tA_row, .ref tA_isKept, .int t_when, .int t_most, .int t_mostAt, .int t_hiss, .ref tA_best, .ref tA_heats, .ref tA_orders, .ref tA_has, .int (nI t_tests), .ref tA_salt, .ref tA_crumbs, .long t_traced, .int t_hasSkin, .int t_hasBend])), (tA_is, .inl (g.2.1 0, 18, .inl t_is)), (tA_row, .inl (g.2.1 0, 80, .inl u))]) := by
  refine x_startI (cc := cX5_fire) (maxL := 4) (by decide) rfl (Nat.le_of_ble_eq_true rfl) ?_
  intro p e s m args below meth c Q A ls H locs hx hb hml hown hts hK hX hP hD hS hA hl RET
  have hown : s.vm.findClass RX5 = some m.cls := hown
  have hl : lv_has ls 4 [(0, .ref tA), (1, .int a1), (2, .int a2)] := hl
  obtain ⟨o_0, hO⟩ : ∃ z, z = F_X5_fire t_is t_row a1 a2 := ⟨_, rfl⟩
  have E := hO
  rw [F_X5_fire.eq_1] at E
  refine lv_iload_n hx hb dX5_fire_0 rfl (lv_at hl 1 rfl) ?_
  refine lv_i2l (v := a1.toInt64) hx hb dX5_fire_1 rfl ?_
  refine lv_lconst (v := 0) hx hb dX5_fire_2 (by decide) ?_
  refine lv_ldc2 (v := 300) hx hb hown (hts _ kw_442) dX5_fire_3 ?_
  refine x_callS0 ⟨hx, hb, hml, hown, hts⟩ hK hX hP hD hS hA (m_X5_in l g a1.toInt64 0 300) (va_cwS 3 hts (x_gS kw_129 kw_130 kw_5 kw_131) rfl rfl rfl vX5_inS ⟨Nat.le_of_ble_eq_true rfl, Nat.le_of_ble_eq_true rfl⟩) rfl hl.1 rfl (Nat.le_of_ble_eq_true rfl) dX5_fire_6 ⟨Nat.zero_le _, Nat.zero_le _⟩ (fun z_1 _ H locs hw_2 hP hD hS => ?_)
  obtain ⟨hw_2, b_3⟩ := hw_2
  have E := x_nm_eq E hw_2
  refine lv_if_eq (tgt := 24) hx hb dX5_fire_9 (by decide) (fun c_5 => ?_) (fun c_5 => ?_)
  · have E := x_pos E c_5
    refine lv_iconst (v := (-1)) hx hb dX5_fire_24 (by decide) ?_
    exact RET (-1) t_row H locs _ _ (E.symm.trans hO) rfl hP hD hS dX5_fire_25
  · have E := x_neg E c_5
    obtain ⟨j_7, hj⟩ : ∃ z, z = (a1).toNatClampNeg := ⟨_, rfl⟩
    have r_6_0 := (x_ins (lo := 0) (hi := 300) (by omega) (by omega) (fun q => c_5 (hw_2.trans q)))
    rw [← hj] at r_6_0
    obtain ⟨r_6_0_a, r_6_0_b, e_6_0⟩ := r_6_0
    have E := x_nm_eq E hj
    have hl : lv_has ls 4 [(0, .ref tA), (1, .int (nI j_7)), (2, .int a2)] := by rw [e_6_0] at hl; exact hl
    refine lv_iload_n hx hb dX5_fire_12 rfl (lv_at hl 2 rfl) ?_
    refine lv_i2l (v := a2.toInt64) hx hb dX5_fire_13 rfl ?_
    refine lv_lconst (v := 1) hx hb dX5_fire_14 (by decide) ?_
    refine lv_ldc2 (v := 99) hx hb hown (hts _ kw_443) dX5_fire_15 ?_
    refine x_callS0 ⟨hx, hb, hml, hown, hts⟩ hK hX hP hD hS hA (m_X5_in l g a2.toInt64 1 99) (va_cwS 3 hts (x_gS kw_129 kw_130 kw_5 kw_131) rfl rfl rfl vX5_inS ⟨Nat.le_of_ble_eq_true rfl, Nat.le_of_ble_eq_true rfl⟩) rfl hl.1 rfl (Nat.le_of_ble_eq_true rfl) dX5_fire_18 ⟨Nat.zero_le _, Nat.zero_le _⟩ (fun z_8 _ H locs hw_9 hP hD hS => ?_)
    obtain ⟨hw_9, b_10⟩ := hw_9
    have E := x_nm_eq E hw_9
    refine x_if_neI (tgt := 26) hx hb dX5_fire_21 (by decide) (fun c_12 => ?_) (fun c_12 => ?_)
    · have E := x_neg E c_12
      obtain ⟨j_14, hj⟩ : ∃ z, z = (a2).toNatClampNeg := ⟨_, rfl⟩
      have r_13_0 := (x_ins (lo := 1) (hi := 99) (by omega) (by omega) (fun q => c_12 (hw_9.trans q)))
      rw [← hj] at r_13_0
      obtain ⟨r_13_0_a, r_13_0_b, e_13_0⟩ := r_13_0
      have E := x_nm_eq E hj
      have hl : lv_has ls 4 [(0, .ref tA), (1, .int (nI j_7)), (2, .int (nI j_14))] := by rw [e_13_0] at hl; exact hl
      refine lv_iconst (v := 0) hx hb dX5_fire_26 (by decide) ?_
      refine lv_istore_n (lv' := [(3, .int 0), (0, .ref tA), (1, .int (nI j_7)), (2, .int (nI j_14))]) hx hb dX5_fire_27 rfl hl (by decide) rfl (fun ls hl => ?_)
      obtain ⟨o_16, E_16, E⟩ := x_nm_ex E
      have J_16 : ∀ (t_row_15 : Nat → Int32), o_16 = t_row_15 → ∀ (H : Heap) (locs : List Loc) (ls : Array Slot), va_P g.1 vwCl [(tA, .inr (5, [.int (nI t_length), .ref tA_text, .int (nI t_at), .int (nI t_begin), .int t_told, .ref tA_is, .ref tA_doings, .ref tA_doing, .int t_items, .ref tA_row, .ref tA_isKept, .int t_when, .int t_most, .int t_mostAt, .int t_hiss, .ref tA_best, .ref tA_heats, .ref tA_orders, .ref tA_has, .int (nI t_tests), .ref tA_salt, .ref tA_crumbs, .long t_traced, .int t_hasSkin, .int t_hasBend])), (tA_is, .inl (g.2.1 0, 18, .inl t_is)), (tA_row, .inl (g.2.1 0, 80, .inl t_row_15))] H → va_D A [(tA, .inr (5, [.int (nI t_length), .ref tA_text, .int (nI t_at), .int (nI t_begin), .int t_told, .ref tA_is, .ref tA_doings, .ref tA_doing, .int t_items, .ref tA_row, .ref tA_isKept, .int t_when, .int t_most, .int t_mostAt, .int t_hiss, .ref tA_best, .ref tA_heats, .ref tA_orders, .ref tA_has, .int (nI t_tests), .ref tA_salt, .ref tA_crumbs, .long t_traced, .int t_hasSkin, .int t_hasBend])), (tA_is, .inl (g.2.1 0, 18, .inl t_is)), (tA_row, .inl (g.2.1 0, 80, .inl t_row_15))] → va_S A s.heap H locs → lv_has ls 4 [(0, .ref tA)] → W p l e rX5_fire s m args below meth c H locs 0 0 Q (F0 m 46 ls []) := by
        intro t_row_15 hE  H locs ls hP hD hS hl
        try rw [hE] at E
        refine lv_aload_n hx hb dX5_fire_46 rfl (lv_at hl 0 rfl) ?_
        refine va_get (ci := 5) (v := .ref tA_row) (C := RX5) (T := TX5) (N := 25) hx hb hts inlX5 hown hK.1 hP 0 rfl rfl 9 (by decide) (hts _ kw_97) (fun _ h9 => h9) rfl dX5_fire_47 ?_
        refine lv_bipush (v := 13) hx hb dX5_fire_50 (by decide) ?_
        refine x_ialdN hx hb hK hP 2 13 rfl (by omega) (by decide) dX5_fire_52 ?_
        exact RET (t_row_15 13) t_row_15 H locs _ _ (E.symm.trans hO) rfl hP hD hS dX5_fire_53
      have E := E_16
      have L_19 : ∀ (n_19 : Nat) (k3_17 : Nat) (t_row_18 : Nat → Int32), (k3_17 ≤ j_14) → ((j_14 - k3_17) < n_19) → o_16 = F_X5_fire_L28 t_is j_7 j_14 n_19 k3_17 t_row_18 → ∀ (H : Heap) (locs : List Loc) (ls : Array Slot), va_P g.1 vwCl [(tA, .inr (5, [.int (nI t_length), .ref tA_text, .int (nI t_at), .int (nI t_begin), .int t_told, .ref tA_is, .ref tA_doings, .ref tA_doing, .int t_items, .ref tA_row, .ref tA_isKept, .int t_when, .int t_most, .int t_mostAt, .int t_hiss, .ref tA_best, .ref tA_heats, .ref tA_orders, .ref tA_has, .int (nI t_tests), .ref tA_salt, .ref tA_crumbs, .long t_traced, .int t_hasSkin, .int t_hasBend])), (tA_is, .inl (g.2.1 0, 18, .inl t_is)), (tA_row, .inl (g.2.1 0, 80, .inl t_row_18))] H → va_D A [(tA, .inr (5, [.int (nI t_length), .ref tA_text, .int (nI t_at), .int (nI t_begin), .int t_told, .ref tA_is, .ref tA_doings, .ref tA_doing, .int t_items, .ref tA_row, .ref tA_isKept, .int t_when, .int t_most, .int t_mostAt, .int t_hiss, .ref tA_best, .ref tA_heats, .ref tA_orders, .ref tA_has, .int (nI t_tests), .ref tA_salt, .ref tA_crumbs, .long t_traced, .int t_hasSkin, .int t_hasBend])), (tA_is, .inl (g.2.1 0, 18, .inl t_is)), (tA_row, .inl (g.2.1 0, 80, .inl t_row_18))] → va_S A s.heap H locs → lv_has ls 4 [(0, .ref tA), (1, .int (nI j_7)), (2, .int (nI j_14)), (3, .int (nI k3_17))] → W p l e rX5_fire s m args below meth c H locs 0 0 Q (F0 m 28 ls []) := by
        intro n_19
        induction n_19 with
        | zero => intro k3_17 t_row_18 i_19_0 i_19_1; exact absurd i_19_1 (by omega)
        | succ n_19 ih_19 =>
          intro k3_17 t_row_18 i_19_0 i_19_1 E H locs ls hP hD hS hl
          rw [F_X5_fire_L28.eq_2] at E
          refine lv_iload_n hx hb dX5_fire_28 rfl (lv_at hl 3 rfl) ?_
          refine lv_iload_n hx hb dX5_fire_29 rfl (lv_at hl 2 rfl) ?_
          refine x_icmp_ge (a := k3_17) (b := j_14) (tgt := 46) hx hb (by omega) (by omega) dX5_fire_30 (by decide) (fun c_20 => ?_) (fun c_20 => ?_)
          · have E := x_pos E c_20
            exact J_16 t_row_18 E  H locs ls hP hD hS (lv_sub hl [0] rfl)
          · have E := x_neg E c_20
            refine lv_aload_n hx hb dX5_fire_33 rfl (lv_at hl 0 rfl) ?_
            refine lv_iconst (v := 0) hx hb dX5_fire_34 (by decide) ?_
            refine lv_iload_n hx hb dX5_fire_35 rfl (lv_at hl 1 rfl) ?_
            refine lv_iconst (v := 0) hx hb dX5_fire_36 (by decide) ?_
            refine x_callVv (w2 := fun u => [(tA, .inr (5, [.int (nI t_length), .ref tA_text, .int (nI t_at), .int (nI t_begin), .int t_told, .ref tA_is, .ref tA_doings, .ref tA_doing, .int t_items, .ref tA_row, .ref tA_isKept, .int t_when, .int t_most, .int t_mostAt, .int t_hiss, .ref tA_best, .ref tA_heats, .ref tA_orders, .ref tA_has, .int (nI t_tests), .ref tA_salt, .ref tA_crumbs, .long t_traced, .int t_hasSkin, .int t_hasBend])), (tA_is, .inl (g.2.1 0, 18, .inl t_is)), (tA_row, .inl (g.2.1 0, 80, .inl u))]) (wr := []) [0, 1, 2] [] [0, 1, 2] 0 5 ⟨hx, hb, hml, hown, hts⟩ hK hX hP hD hS hA (m_X5_second l g tA tA_is tA_row tA_text tA_doings tA_doing tA_isKept tA_best tA_heats tA_orders tA_has tA_salt tA_crumbs t_length t_at t_begin t_told t_items t_when t_most t_mostAt t_hiss t_tests t_traced t_hasSkin t_hasBend t_is t_row_18 0 (nI j_7) 0 (by first | assumption | omega | exact x_e8 (by assumption) (by assumption)) (by first | assumption | omega | exact x_e8 (by assumption) (by assumption))) (cwV 3 hts (x_gV kw_444 kw_445 kw_446 kw_5 kw_447) rfl rfl rfl vX5_second ⟨Nat.le_of_ble_eq_true rfl, Nat.le_of_ble_eq_true rfl⟩) rfl rfl rfl rfl rfl rfl rfl (by decide) (fun _ => rfl) rfl rfl hl.1 rfl (Nat.le_of_ble_eq_true rfl) dX5_fire_37 ⟨Nat.zero_le _, Nat.zero_le _⟩ (fun t_row_21 H locs hw_22 hP hD hS => ?_)
            have hP : va_P g.1 vwCl [(tA, .inr (5, [.int (nI t_length), .ref tA_text, .int (nI t_at), .int (nI t_begin), .int t_told, .ref tA_is, .ref tA_doings, .ref tA_doing, .int t_items, .ref tA_row, .ref tA_isKept, .int t_when, .int t_most, .int t_mostAt, .int t_hiss, .ref tA_best, .ref tA_heats, .ref tA_orders, .ref tA_has, .int (nI t_tests), .ref tA_salt, .ref tA_crumbs, .long t_traced, .int t_hasSkin, .int t_hasBend])), (tA_is, .inl (g.2.1 0, 18, .inl t_is)), (tA_row, .inl (g.2.1 0, 80, .inl t_row_21))] H := hP
            have hD : va_D A [(tA, .inr (5, [.int (nI t_length), .ref tA_text, .int (nI t_at), .int (nI t_begin), .int t_told, .ref tA_is, .ref tA_doings, .ref tA_doing, .int t_items, .ref tA_row, .ref tA_isKept, .int t_when, .int t_most, .int t_mostAt, .int t_hiss, .ref tA_best, .ref tA_heats, .ref tA_orders, .ref tA_has, .int (nI t_tests), .ref tA_salt, .ref tA_crumbs, .long t_traced, .int t_hasSkin, .int t_hasBend])), (tA_is, .inl (g.2.1 0, 18, .inl t_is)), (tA_row, .inl (g.2.1 0, 80, .inl t_row_21))] := hD
            have E := x_nm_eq E hw_22
            refine lv_iinc (v := nI (k3_17 + 1)) (lv' := [(3, .int (nI (k3_17 + 1))), (0, .ref tA), (1, .int (nI j_7)), (2, .int (nI j_14))]) hx hb dX5_fire_40 hl (k := 3) rfl (nI_1 k3_17) (by decide) rfl (fun ls hl => ?_)
            refine lv_goto (tgt := 28) hx hb dX5_fire_43 (by decide) ?_
            exact ih_19 (k3_17 + 1) t_row_21 (by first | omega | assumption | exact Eq.trans (by assumption) (by assumption)) (by omega) E H locs ls hP hD hS (lv_sub hl [1, 2, 3, 0] rfl)
      exact L_19 (j_14 + 1) 0 t_row (by first | omega | assumption | rfl) (by omega) E H locs ls hP hD hS (lv_sub hl [1, 2, 3, 0] rfl)
    · have E := x_pos E c_12
      refine lv_iconst (v := (-1)) hx hb dX5_fire_24 (by decide) ?_
      exact RET (-1) t_row H locs _ _ (E.symm.trans hO) rfl hP hD hS dX5_fire_25
abbrev rX5_simmer : Room := { frames := 2, cells := 0, slots := 0, locals := 55 }
theorem vX5_simmer : yX5_simmer.cls = RX5 ∧ yX5_simmer.cls ≠ "java/lang/invoke/MethodHandle" ∧ yX5_simmer.cls ≠ "java/lang/invoke/VarHandle" ∧ (parseMethodDescriptor yX5_simmer.desc).map (fun d => d.parameters.length) = some 2 := by decide +kernel
abbrev wX5_simmer : List Cond := Cond.code yX5_simmer cX5_simmer 4 (some .int) :: wsL_law
def F_X5_simmer_L30 (t_is : Nat → Int32) (j_7 : Nat) (j_14 : Nat) : Nat → Nat → (Nat → Int32) → (Nat → Int32)
  | 0, k3_17, t_row_18 => t_row_18
  | n_19 + 1, k3_17, t_row_18 => if j_14 ≤ k3_17 then t_row_18 else x_nm (F_X5_second t_is t_row_18 0 (nI j_7) 1) fun t_row_21 => F_X5_simmer_L30 t_is j_7 j_14 n_19 (k3_17 + 1) t_row_21
def F_X5_simmer (t_is : Nat → Int32) (t_row : Nat → Int32) (a1 : Int32) (a2 : Int32) : Int32 × (Nat → Int32) :=
  x_nm (F_X5_in a1.toInt64 20 100) fun z_1 => if z_1 = 0 then ((-1), t_row) else x_nm (a1.toNatClampNeg) fun j_7 => x_nm (F_X5_in a2.toInt64 1 99) fun z_8 => if z_8 = 0 then ((-1), t_row) else x_nm (a2.toNatClampNeg) fun j_14 => x_nm (α := (Nat → Int32)) (F_X5_simmer_L30 t_is j_7 j_14 (j_14 + 1) 0 t_row) fun u_16 => (u_16 13, u_16)
set_option maxHeartbeats 4000000 in
set_option maxRecDepth 100000 in
theorem m_X5_simmer (l : Launch) (g : x_G) (tA tA_is tA_row tA_text tA_doings tA_doing tA_isKept tA_best tA_heats tA_orders tA_has tA_salt tA_crumbs : Nat) (t_length : Nat) (t_at : Nat) (t_begin : Nat) (t_told : Int32) (t_items : Int32) (t_when : Int32) (t_most : Int32) (t_mostAt : Int32) (t_hiss : Int32) (t_tests : Nat) (t_traced : Int64) (t_hasSkin : Int32) (t_hasBend : Int32) (t_is : Nat → Int32) (t_row : Nat → Int32) (a1 : Int32) (a2 : Int32) (h_0 : ¬ 8 * t_is 0 = 0) : x_MetI l yX5_simmer wX5_simmer rX5_simmer g [.ref tA, .int a1, .int a2] [(tA, .inr (5, [.int (nI t_length), .ref tA_text, .int (nI t_at), .int (nI t_begin), .int t_told, .ref tA_is, .ref tA_doings, .ref tA_doing, .int t_items, .ref tA_row, .ref tA_isKept, .int t_when, .int t_most, .int t_mostAt, .int t_hiss, .ref tA_best, .ref tA_heats, .ref tA_orders, .ref tA_has, .int (nI t_tests), .ref tA_salt, .ref tA_crumbs, .long t_traced, .int t_hasSkin, .int t_hasBend])), (tA_is, .inl (g.2.1 0, 18, .inl t_is)), (tA_row, .inl (g.2.1 0, 80, .inl t_row))] (fun (r : Int32) (u : (Nat → Int32)) => (r, u) = F_X5_simmer t_is t_row a1 a2) (fun u => [(tA, .inr (5, [.int (nI t_length), .ref tA_text, .int (nI t_at), .int (nI t_begin), .int t_told, .ref tA_is, .ref tA_doings, .ref tA_doing, .int t_items, .ref tA_row, .ref tA_isKept, .int t_when, .int t_most, .int t_mostAt, .int t_hiss, .ref tA_best, .ref tA_heats, .ref tA_orders, .ref tA_has, .int (nI t_tests), .ref tA_salt, .ref tA_crumbs, .long t_traced, .int t_hasSkin, .int t_hasBend])), (tA_is, .inl (g.2.1 0, 18, .inl t_is)), (tA_row, .inl (g.2.1 0, 80, .inl u))]) := by
  refine x_startI (cc := cX5_simmer) (maxL := 4) (by decide) rfl (Nat.le_of_ble_eq_true rfl) ?_
  intro p e s m args below meth c Q A ls H locs hx hb hml hown hts hK hX hP hD hS hA hl RET
  have hown : s.vm.findClass RX5 = some m.cls := hown
  have hl : lv_has ls 4 [(0, .ref tA), (1, .int a1), (2, .int a2)] := hl
  obtain ⟨o_0, hO⟩ : ∃ z, z = F_X5_simmer t_is t_row a1 a2 := ⟨_, rfl⟩
  have E := hO
  rw [F_X5_simmer.eq_1] at E
  refine lv_iload_n hx hb dX5_simmer_0 rfl (lv_at hl 1 rfl) ?_
  refine lv_i2l (v := a1.toInt64) hx hb dX5_simmer_1 rfl ?_
  refine lv_ldc2 (v := 20) hx hb hown (hts _ kw_468) dX5_simmer_2 ?_
  refine lv_ldc2 (v := 100) hx hb hown (hts _ kw_469) dX5_simmer_5 ?_
  refine x_callS0 ⟨hx, hb, hml, hown, hts⟩ hK hX hP hD hS hA (m_X5_in l g a1.toInt64 20 100) (va_cwS 3 hts (x_gS kw_129 kw_130 kw_5 kw_131) rfl rfl rfl vX5_inS ⟨Nat.le_of_ble_eq_true rfl, Nat.le_of_ble_eq_true rfl⟩) rfl hl.1 rfl (Nat.le_of_ble_eq_true rfl) dX5_simmer_8 ⟨Nat.zero_le _, Nat.zero_le _⟩ (fun z_1 _ H locs hw_2 hP hD hS => ?_)
  obtain ⟨hw_2, b_3⟩ := hw_2
  have E := x_nm_eq E hw_2
  refine lv_if_eq (tgt := 26) hx hb dX5_simmer_11 (by decide) (fun c_5 => ?_) (fun c_5 => ?_)
  · have E := x_pos E c_5
    refine lv_iconst (v := (-1)) hx hb dX5_simmer_26 (by decide) ?_
    exact RET (-1) t_row H locs _ _ (E.symm.trans hO) rfl hP hD hS dX5_simmer_27
  · have E := x_neg E c_5
    obtain ⟨j_7, hj⟩ : ∃ z, z = (a1).toNatClampNeg := ⟨_, rfl⟩
    have r_6_0 := (x_ins (lo := 20) (hi := 100) (by omega) (by omega) (fun q => c_5 (hw_2.trans q)))
    rw [← hj] at r_6_0
    obtain ⟨r_6_0_a, r_6_0_b, e_6_0⟩ := r_6_0
    have E := x_nm_eq E hj
    have hl : lv_has ls 4 [(0, .ref tA), (1, .int (nI j_7)), (2, .int a2)] := by rw [e_6_0] at hl; exact hl
    refine lv_iload_n hx hb dX5_simmer_14 rfl (lv_at hl 2 rfl) ?_
    refine lv_i2l (v := a2.toInt64) hx hb dX5_simmer_15 rfl ?_
    refine lv_lconst (v := 1) hx hb dX5_simmer_16 (by decide) ?_
    refine lv_ldc2 (v := 99) hx hb hown (hts _ kw_443) dX5_simmer_17 ?_
    refine x_callS0 ⟨hx, hb, hml, hown, hts⟩ hK hX hP hD hS hA (m_X5_in l g a2.toInt64 1 99) (va_cwS 3 hts (x_gS kw_129 kw_130 kw_5 kw_131) rfl rfl rfl vX5_inS ⟨Nat.le_of_ble_eq_true rfl, Nat.le_of_ble_eq_true rfl⟩) rfl hl.1 rfl (Nat.le_of_ble_eq_true rfl) dX5_simmer_20 ⟨Nat.zero_le _, Nat.zero_le _⟩ (fun z_8 _ H locs hw_9 hP hD hS => ?_)
    obtain ⟨hw_9, b_10⟩ := hw_9
    have E := x_nm_eq E hw_9
    refine x_if_neI (tgt := 28) hx hb dX5_simmer_23 (by decide) (fun c_12 => ?_) (fun c_12 => ?_)
    · have E := x_neg E c_12
      obtain ⟨j_14, hj⟩ : ∃ z, z = (a2).toNatClampNeg := ⟨_, rfl⟩
      have r_13_0 := (x_ins (lo := 1) (hi := 99) (by omega) (by omega) (fun q => c_12 (hw_9.trans q)))
      rw [← hj] at r_13_0
      obtain ⟨r_13_0_a, r_13_0_b, e_13_0⟩ := r_13_0
      have E := x_nm_eq E hj
      have hl : lv_has ls 4 [(0, .ref tA), (1, .int (nI j_7)), (2, .int (nI j_14))] := by rw [e_13_0] at hl; exact hl
      refine lv_iconst (v := 0) hx hb dX5_simmer_28 (by decide) ?_
      refine lv_istore_n (lv' := [(3, .int 0), (0, .ref tA), (1, .int (nI j_7)), (2, .int (nI j_14))]) hx hb dX5_simmer_29 rfl hl (by decide) rfl (fun ls hl => ?_)
      obtain ⟨o_16, E_16, E⟩ := x_nm_ex E
      have J_16 : ∀ (t_row_15 : Nat → Int32), o_16 = t_row_15 → ∀ (H : Heap) (locs : List Loc) (ls : Array Slot), va_P g.1 vwCl [(tA, .inr (5, [.int (nI t_length), .ref tA_text, .int (nI t_at), .int (nI t_begin), .int t_told, .ref tA_is, .ref tA_doings, .ref tA_doing, .int t_items, .ref tA_row, .ref tA_isKept, .int t_when, .int t_most, .int t_mostAt, .int t_hiss, .ref tA_best, .ref tA_heats, .ref tA_orders, .ref tA_has, .int (nI t_tests), .ref tA_salt, .ref tA_crumbs, .long t_traced, .int t_hasSkin, .int t_hasBend])), (tA_is, .inl (g.2.1 0, 18, .inl t_is)), (tA_row, .inl (g.2.1 0, 80, .inl t_row_15))] H → va_D A [(tA, .inr (5, [.int (nI t_length), .ref tA_text, .int (nI t_at), .int (nI t_begin), .int t_told, .ref tA_is, .ref tA_doings, .ref tA_doing, .int t_items, .ref tA_row, .ref tA_isKept, .int t_when, .int t_most, .int t_mostAt, .int t_hiss, .ref tA_best, .ref tA_heats, .ref tA_orders, .ref tA_has, .int (nI t_tests), .ref tA_salt, .ref tA_crumbs, .long t_traced, .int t_hasSkin, .int t_hasBend])), (tA_is, .inl (g.2.1 0, 18, .inl t_is)), (tA_row, .inl (g.2.1 0, 80, .inl t_row_15))] → va_S A s.heap H locs → lv_has ls 4 [(0, .ref tA)] → W p l e rX5_simmer s m args below meth c H locs 0 0 Q (F0 m 48 ls []) := by
        intro t_row_15 hE  H locs ls hP hD hS hl
        try rw [hE] at E
        refine lv_aload_n hx hb dX5_simmer_48 rfl (lv_at hl 0 rfl) ?_
        refine va_get (ci := 5) (v := .ref tA_row) (C := RX5) (T := TX5) (N := 25) hx hb hts inlX5 hown hK.1 hP 0 rfl rfl 9 (by decide) (hts _ kw_97) (fun _ h9 => h9) rfl dX5_simmer_49 ?_
        refine lv_bipush (v := 13) hx hb dX5_simmer_52 (by decide) ?_
        refine x_ialdN hx hb hK hP 2 13 rfl (by omega) (by decide) dX5_simmer_54 ?_
        exact RET (t_row_15 13) t_row_15 H locs _ _ (E.symm.trans hO) rfl hP hD hS dX5_simmer_55
      have E := E_16
      have L_19 : ∀ (n_19 : Nat) (k3_17 : Nat) (t_row_18 : Nat → Int32), (k3_17 ≤ j_14) → ((j_14 - k3_17) < n_19) → o_16 = F_X5_simmer_L30 t_is j_7 j_14 n_19 k3_17 t_row_18 → ∀ (H : Heap) (locs : List Loc) (ls : Array Slot), va_P g.1 vwCl [(tA, .inr (5, [.int (nI t_length), .ref tA_text, .int (nI t_at), .int (nI t_begin), .int t_told, .ref tA_is, .ref tA_doings, .ref tA_doing, .int t_items, .ref tA_row, .ref tA_isKept, .int t_when, .int t_most, .int t_mostAt, .int t_hiss, .ref tA_best, .ref tA_heats, .ref tA_orders, .ref tA_has, .int (nI t_tests), .ref tA_salt, .ref tA_crumbs, .long t_traced, .int t_hasSkin, .int t_hasBend])), (tA_is, .inl (g.2.1 0, 18, .inl t_is)), (tA_row, .inl (g.2.1 0, 80, .inl t_row_18))] H → va_D A [(tA, .inr (5, [.int (nI t_length), .ref tA_text, .int (nI t_at), .int (nI t_begin), .int t_told, .ref tA_is, .ref tA_doings, .ref tA_doing, .int t_items, .ref tA_row, .ref tA_isKept, .int t_when, .int t_most, .int t_mostAt, .int t_hiss, .ref tA_best, .ref tA_heats, .ref tA_orders, .ref tA_has, .int (nI t_tests), .ref tA_salt, .ref tA_crumbs, .long t_traced, .int t_hasSkin, .int t_hasBend])), (tA_is, .inl (g.2.1 0, 18, .inl t_is)), (tA_row, .inl (g.2.1 0, 80, .inl t_row_18))] → va_S A s.heap H locs → lv_has ls 4 [(0, .ref tA), (1, .int (nI j_7)), (2, .int (nI j_14)), (3, .int (nI k3_17))] → W p l e rX5_simmer s m args below meth c H locs 0 0 Q (F0 m 30 ls []) := by
        intro n_19
        induction n_19 with
        | zero => intro k3_17 t_row_18 i_19_0 i_19_1; exact absurd i_19_1 (by omega)
        | succ n_19 ih_19 =>
          intro k3_17 t_row_18 i_19_0 i_19_1 E H locs ls hP hD hS hl
          rw [F_X5_simmer_L30.eq_2] at E
          refine lv_iload_n hx hb dX5_simmer_30 rfl (lv_at hl 3 rfl) ?_
          refine lv_iload_n hx hb dX5_simmer_31 rfl (lv_at hl 2 rfl) ?_
          refine x_icmp_ge (a := k3_17) (b := j_14) (tgt := 48) hx hb (by omega) (by omega) dX5_simmer_32 (by decide) (fun c_20 => ?_) (fun c_20 => ?_)
          · have E := x_pos E c_20
            exact J_16 t_row_18 E  H locs ls hP hD hS (lv_sub hl [0] rfl)
          · have E := x_neg E c_20
            refine lv_aload_n hx hb dX5_simmer_35 rfl (lv_at hl 0 rfl) ?_
            refine lv_iconst (v := 0) hx hb dX5_simmer_36 (by decide) ?_
            refine lv_iload_n hx hb dX5_simmer_37 rfl (lv_at hl 1 rfl) ?_
            refine lv_iconst (v := 1) hx hb dX5_simmer_38 (by decide) ?_
            refine x_callVv (w2 := fun u => [(tA, .inr (5, [.int (nI t_length), .ref tA_text, .int (nI t_at), .int (nI t_begin), .int t_told, .ref tA_is, .ref tA_doings, .ref tA_doing, .int t_items, .ref tA_row, .ref tA_isKept, .int t_when, .int t_most, .int t_mostAt, .int t_hiss, .ref tA_best, .ref tA_heats, .ref tA_orders, .ref tA_has, .int (nI t_tests), .ref tA_salt, .ref tA_crumbs, .long t_traced, .int t_hasSkin, .int t_hasBend])), (tA_is, .inl (g.2.1 0, 18, .inl t_is)), (tA_row, .inl (g.2.1 0, 80, .inl u))]) (wr := []) [0, 1, 2] [] [0, 1, 2] 0 5 ⟨hx, hb, hml, hown, hts⟩ hK hX hP hD hS hA (m_X5_second l g tA tA_is tA_row tA_text tA_doings tA_doing tA_isKept tA_best tA_heats tA_orders tA_has tA_salt tA_crumbs t_length t_at t_begin t_told t_items t_when t_most t_mostAt t_hiss t_tests t_traced t_hasSkin t_hasBend t_is t_row_18 0 (nI j_7) 1 (by first | assumption | omega | exact x_e8 (by assumption) (by assumption)) (by first | assumption | omega | exact x_e8 (by assumption) (by assumption))) (cwV 3 hts (x_gV kw_444 kw_445 kw_446 kw_5 kw_447) rfl rfl rfl vX5_second ⟨Nat.le_of_ble_eq_true rfl, Nat.le_of_ble_eq_true rfl⟩) rfl rfl rfl rfl rfl rfl rfl (by decide) (fun _ => rfl) rfl rfl hl.1 rfl (Nat.le_of_ble_eq_true rfl) dX5_simmer_39 ⟨Nat.zero_le _, Nat.zero_le _⟩ (fun t_row_21 H locs hw_22 hP hD hS => ?_)
            have hP : va_P g.1 vwCl [(tA, .inr (5, [.int (nI t_length), .ref tA_text, .int (nI t_at), .int (nI t_begin), .int t_told, .ref tA_is, .ref tA_doings, .ref tA_doing, .int t_items, .ref tA_row, .ref tA_isKept, .int t_when, .int t_most, .int t_mostAt, .int t_hiss, .ref tA_best, .ref tA_heats, .ref tA_orders, .ref tA_has, .int (nI t_tests), .ref tA_salt, .ref tA_crumbs, .long t_traced, .int t_hasSkin, .int t_hasBend])), (tA_is, .inl (g.2.1 0, 18, .inl t_is)), (tA_row, .inl (g.2.1 0, 80, .inl t_row_21))] H := hP
            have hD : va_D A [(tA, .inr (5, [.int (nI t_length), .ref tA_text, .int (nI t_at), .int (nI t_begin), .int t_told, .ref tA_is, .ref tA_doings, .ref tA_doing, .int t_items, .ref tA_row, .ref tA_isKept, .int t_when, .int t_most, .int t_mostAt, .int t_hiss, .ref tA_best, .ref tA_heats, .ref tA_orders, .ref tA_has, .int (nI t_tests), .ref tA_salt, .ref tA_crumbs, .long t_traced, .int t_hasSkin, .int t_hasBend])), (tA_is, .inl (g.2.1 0, 18, .inl t_is)), (tA_row, .inl (g.2.1 0, 80, .inl t_row_21))] := hD
            have E := x_nm_eq E hw_22
            refine lv_iinc (v := nI (k3_17 + 1)) (lv' := [(3, .int (nI (k3_17 + 1))), (0, .ref tA), (1, .int (nI j_7)), (2, .int (nI j_14))]) hx hb dX5_simmer_42 hl (k := 3) rfl (nI_1 k3_17) (by decide) rfl (fun ls hl => ?_)
            refine lv_goto (tgt := 30) hx hb dX5_simmer_45 (by decide) ?_
            exact ih_19 (k3_17 + 1) t_row_21 (by first | omega | assumption | exact Eq.trans (by assumption) (by assumption)) (by omega) E H locs ls hP hD hS (lv_sub hl [1, 2, 3, 0] rfl)
      exact L_19 (j_14 + 1) 0 t_row (by first | omega | assumption | rfl) (by omega) E H locs ls hP hD hS (lv_sub hl [1, 2, 3, 0] rfl)
    · have E := x_pos E c_12
      refine lv_iconst (v := (-1)) hx hb dX5_simmer_26 (by decide) ?_
      exact RET (-1) t_row H locs _ _ (E.symm.trans hO) rfl hP hD hS dX5_simmer_27
abbrev rX5_turn : Room := { frames := 1, cells := 0, slots := 0, locals := 25 }
theorem vX5_turn : yX5_turn.cls = RX5 ∧ yX5_turn.cls ≠ "java/lang/invoke/MethodHandle" ∧ yX5_turn.cls ≠ "java/lang/invoke/VarHandle" ∧ (parseMethodDescriptor yX5_turn.desc).map (fun d => d.parameters.length) = some 1 := by decide +kernel
abbrev wX5_turn : List Cond := Cond.code yX5_turn cX5_turn 2 (some .int) :: wsL_law
def F_X5_turn (t_row : Nat → Int32) (a1 : Int32) : Int32 × (Nat → Int32) :=
  x_nm (F_X5_in a1.toInt64 1 3) fun z_1 => if z_1 = 0 then ((-1), t_row) else x_nm (a1.toNatClampNeg) fun j_7 => x_nm (F_X5_turns t_row 0 (nI j_7)) fun t_row_8 => (t_row_8 16, t_row_8)
set_option maxHeartbeats 4000000 in
set_option maxRecDepth 100000 in
theorem m_X5_turn (l : Launch) (g : x_G) (tA tA_row tA_text tA_is tA_doings tA_doing tA_isKept tA_best tA_heats tA_orders tA_has tA_salt tA_crumbs : Nat) (t_length : Nat) (t_at : Nat) (t_begin : Nat) (t_told : Int32) (t_items : Int32) (t_when : Int32) (t_most : Int32) (t_mostAt : Int32) (t_hiss : Int32) (t_tests : Nat) (t_traced : Int64) (t_hasSkin : Int32) (t_hasBend : Int32) (t_row : Nat → Int32) (a1 : Int32) : x_MetI l yX5_turn wX5_turn rX5_turn g [.ref tA, .int a1] [(tA, .inr (5, [.int (nI t_length), .ref tA_text, .int (nI t_at), .int (nI t_begin), .int t_told, .ref tA_is, .ref tA_doings, .ref tA_doing, .int t_items, .ref tA_row, .ref tA_isKept, .int t_when, .int t_most, .int t_mostAt, .int t_hiss, .ref tA_best, .ref tA_heats, .ref tA_orders, .ref tA_has, .int (nI t_tests), .ref tA_salt, .ref tA_crumbs, .long t_traced, .int t_hasSkin, .int t_hasBend])), (tA_row, .inl (g.2.1 0, 80, .inl t_row))] (fun (r : Int32) (u : (Nat → Int32)) => (r, u) = F_X5_turn t_row a1) (fun u => [(tA, .inr (5, [.int (nI t_length), .ref tA_text, .int (nI t_at), .int (nI t_begin), .int t_told, .ref tA_is, .ref tA_doings, .ref tA_doing, .int t_items, .ref tA_row, .ref tA_isKept, .int t_when, .int t_most, .int t_mostAt, .int t_hiss, .ref tA_best, .ref tA_heats, .ref tA_orders, .ref tA_has, .int (nI t_tests), .ref tA_salt, .ref tA_crumbs, .long t_traced, .int t_hasSkin, .int t_hasBend])), (tA_row, .inl (g.2.1 0, 80, .inl u))]) := by
  refine x_startI (cc := cX5_turn) (maxL := 2) (by decide) rfl (Nat.le_of_ble_eq_true rfl) ?_
  intro p e s m args below meth c Q A ls H locs hx hb hml hown hts hK hX hP hD hS hA hl RET
  have hown : s.vm.findClass RX5 = some m.cls := hown
  have hl : lv_has ls 2 [(0, .ref tA), (1, .int a1)] := hl
  obtain ⟨o_0, hO⟩ : ∃ z, z = F_X5_turn t_row a1 := ⟨_, rfl⟩
  have E := hO
  rw [F_X5_turn.eq_1] at E
  refine lv_iload_n hx hb dX5_turn_0 rfl (lv_at hl 1 rfl) ?_
  refine lv_i2l (v := a1.toInt64) hx hb dX5_turn_1 rfl ?_
  refine lv_lconst (v := 1) hx hb dX5_turn_2 (by decide) ?_
  refine lv_ldc2 (v := 3) hx hb hown (hts _ kw_483) dX5_turn_3 ?_
  refine x_callS0 ⟨hx, hb, hml, hown, hts⟩ hK hX hP hD hS hA (m_X5_in l g a1.toInt64 1 3) (va_cwS 3 hts (x_gS kw_129 kw_130 kw_5 kw_131) rfl rfl rfl vX5_inS ⟨Nat.le_of_ble_eq_true rfl, Nat.le_of_ble_eq_true rfl⟩) rfl hl.1 rfl (Nat.le_of_ble_eq_true rfl) dX5_turn_6 ⟨Nat.zero_le _, Nat.zero_le _⟩ (fun z_1 _ H locs hw_2 hP hD hS => ?_)
  obtain ⟨hw_2, b_3⟩ := hw_2
  have E := x_nm_eq E hw_2
  refine x_if_neI (tgt := 14) hx hb dX5_turn_9 (by decide) (fun c_5 => ?_) (fun c_5 => ?_)
  · have E := x_neg E c_5
    obtain ⟨j_7, hj⟩ : ∃ z, z = (a1).toNatClampNeg := ⟨_, rfl⟩
    have r_6_0 := (x_ins (lo := 1) (hi := 3) (by omega) (by omega) (fun q => c_5 (hw_2.trans q)))
    rw [← hj] at r_6_0
    obtain ⟨r_6_0_a, r_6_0_b, e_6_0⟩ := r_6_0
    have E := x_nm_eq E hj
    have hl : lv_has ls 2 [(0, .ref tA), (1, .int (nI j_7))] := by rw [e_6_0] at hl; exact hl
    refine lv_aload_n hx hb dX5_turn_14 rfl (lv_at hl 0 rfl) ?_
    refine lv_iconst (v := 0) hx hb dX5_turn_15 (by decide) ?_
    refine lv_iload_n hx hb dX5_turn_16 rfl (lv_at hl 1 rfl) ?_
    refine x_callVv (w2 := fun u => [(tA, .inr (5, [.int (nI t_length), .ref tA_text, .int (nI t_at), .int (nI t_begin), .int t_told, .ref tA_is, .ref tA_doings, .ref tA_doing, .int t_items, .ref tA_row, .ref tA_isKept, .int t_when, .int t_most, .int t_mostAt, .int t_hiss, .ref tA_best, .ref tA_heats, .ref tA_orders, .ref tA_has, .int (nI t_tests), .ref tA_salt, .ref tA_crumbs, .long t_traced, .int t_hasSkin, .int t_hasBend])), (tA_row, .inl (g.2.1 0, 80, .inl u))]) (wr := []) [0, 1] [] [0, 1] 0 5 ⟨hx, hb, hml, hown, hts⟩ hK hX hP hD hS hA (m_X5_turns l g tA tA_row tA_text tA_is tA_doings tA_doing tA_isKept tA_best tA_heats tA_orders tA_has tA_salt tA_crumbs t_length t_at t_begin t_told t_items t_when t_most t_mostAt t_hiss t_tests t_traced t_hasSkin t_hasBend t_row 0 (nI j_7) (by first | assumption | omega | exact x_e8 (by assumption) (by assumption))) (cwV 2 hts (x_gV kw_484 kw_485 kw_486 kw_5 kw_487) rfl rfl rfl vX5_turns ⟨Nat.le_of_ble_eq_true rfl, Nat.le_of_ble_eq_true rfl⟩) rfl rfl rfl rfl rfl rfl rfl (by decide) (fun _ => rfl) rfl rfl hl.1 rfl (Nat.le_of_ble_eq_true rfl) dX5_turn_17 ⟨Nat.zero_le _, Nat.zero_le _⟩ (fun t_row_8 H locs hw_9 hP hD hS => ?_)
    have hP : va_P g.1 vwCl [(tA, .inr (5, [.int (nI t_length), .ref tA_text, .int (nI t_at), .int (nI t_begin), .int t_told, .ref tA_is, .ref tA_doings, .ref tA_doing, .int t_items, .ref tA_row, .ref tA_isKept, .int t_when, .int t_most, .int t_mostAt, .int t_hiss, .ref tA_best, .ref tA_heats, .ref tA_orders, .ref tA_has, .int (nI t_tests), .ref tA_salt, .ref tA_crumbs, .long t_traced, .int t_hasSkin, .int t_hasBend])), (tA_row, .inl (g.2.1 0, 80, .inl t_row_8))] H := hP
    have hD : va_D A [(tA, .inr (5, [.int (nI t_length), .ref tA_text, .int (nI t_at), .int (nI t_begin), .int t_told, .ref tA_is, .ref tA_doings, .ref tA_doing, .int t_items, .ref tA_row, .ref tA_isKept, .int t_when, .int t_most, .int t_mostAt, .int t_hiss, .ref tA_best, .ref tA_heats, .ref tA_orders, .ref tA_has, .int (nI t_tests), .ref tA_salt, .ref tA_crumbs, .long t_traced, .int t_hasSkin, .int t_hasBend])), (tA_row, .inl (g.2.1 0, 80, .inl t_row_8))] := hD
    have E := x_nm_eq E hw_9
    refine lv_aload_n hx hb dX5_turn_20 rfl (lv_at hl 0 rfl) ?_
    refine va_get (ci := 5) (v := .ref tA_row) (C := RX5) (T := TX5) (N := 25) hx hb hts inlX5 hown hK.1 hP 0 rfl rfl 9 (by decide) (hts _ kw_97) (fun _ h9 => h9) rfl dX5_turn_21 ?_
    refine lv_bipush (v := 16) hx hb dX5_turn_24 (by decide) ?_
    refine x_ialdN hx hb hK hP 1 16 rfl (by omega) (by decide) dX5_turn_26 ?_
    exact RET (t_row_8 16) t_row_8 H locs _ _ (E.symm.trans hO) rfl hP hD hS dX5_turn_27
  · have E := x_pos E c_5
    refine lv_iconst (v := (-1)) hx hb dX5_turn_12 (by decide) ?_
    exact RET (-1) t_row H locs _ _ (E.symm.trans hO) rfl hP hD hS dX5_turn_13
abbrev rX5_prick : Room := { frames := 1, cells := 0, slots := 0, locals := 25 }
theorem vX5_prick : yX5_prick.cls = RX5 ∧ yX5_prick.cls ≠ "java/lang/invoke/MethodHandle" ∧ yX5_prick.cls ≠ "java/lang/invoke/VarHandle" ∧ (parseMethodDescriptor yX5_prick.desc).map (fun d => d.parameters.length) = some 1 := by decide +kernel
abbrev wX5_prick : List Cond := Cond.code yX5_prick cX5_prick 2 (some .int) :: wsL_law
def F_X5_prick (t_row : Nat → Int32) (a1 : Int32) : Int32 × (Nat → Int32) :=
  x_nm (F_X5_in a1.toInt64 1 9) fun z_1 => if z_1 = 0 then ((-1), t_row) else x_nm (a1.toNatClampNeg) fun j_7 => x_nm (F_X5_pricked t_row 0 (nI j_7)) fun t_row_8 => (t_row_8 10, t_row_8)
set_option maxHeartbeats 4000000 in
set_option maxRecDepth 100000 in
theorem m_X5_prick (l : Launch) (g : x_G) (tA tA_row tA_text tA_is tA_doings tA_doing tA_isKept tA_best tA_heats tA_orders tA_has tA_salt tA_crumbs : Nat) (t_length : Nat) (t_at : Nat) (t_begin : Nat) (t_told : Int32) (t_items : Int32) (t_when : Int32) (t_most : Int32) (t_mostAt : Int32) (t_hiss : Int32) (t_tests : Nat) (t_traced : Int64) (t_hasSkin : Int32) (t_hasBend : Int32) (t_row : Nat → Int32) (a1 : Int32) : x_MetI l yX5_prick wX5_prick rX5_prick g [.ref tA, .int a1] [(tA, .inr (5, [.int (nI t_length), .ref tA_text, .int (nI t_at), .int (nI t_begin), .int t_told, .ref tA_is, .ref tA_doings, .ref tA_doing, .int t_items, .ref tA_row, .ref tA_isKept, .int t_when, .int t_most, .int t_mostAt, .int t_hiss, .ref tA_best, .ref tA_heats, .ref tA_orders, .ref tA_has, .int (nI t_tests), .ref tA_salt, .ref tA_crumbs, .long t_traced, .int t_hasSkin, .int t_hasBend])), (tA_row, .inl (g.2.1 0, 80, .inl t_row))] (fun (r : Int32) (u : (Nat → Int32)) => (r, u) = F_X5_prick t_row a1) (fun u => [(tA, .inr (5, [.int (nI t_length), .ref tA_text, .int (nI t_at), .int (nI t_begin), .int t_told, .ref tA_is, .ref tA_doings, .ref tA_doing, .int t_items, .ref tA_row, .ref tA_isKept, .int t_when, .int t_most, .int t_mostAt, .int t_hiss, .ref tA_best, .ref tA_heats, .ref tA_orders, .ref tA_has, .int (nI t_tests), .ref tA_salt, .ref tA_crumbs, .long t_traced, .int t_hasSkin, .int t_hasBend])), (tA_row, .inl (g.2.1 0, 80, .inl u))]) := by
  refine x_startI (cc := cX5_prick) (maxL := 2) (by decide) rfl (Nat.le_of_ble_eq_true rfl) ?_
  intro p e s m args below meth c Q A ls H locs hx hb hml hown hts hK hX hP hD hS hA hl RET
  have hown : s.vm.findClass RX5 = some m.cls := hown
  have hl : lv_has ls 2 [(0, .ref tA), (1, .int a1)] := hl
  obtain ⟨o_0, hO⟩ : ∃ z, z = F_X5_prick t_row a1 := ⟨_, rfl⟩
  have E := hO
  rw [F_X5_prick.eq_1] at E
  refine lv_iload_n hx hb dX5_prick_0 rfl (lv_at hl 1 rfl) ?_
  refine lv_i2l (v := a1.toInt64) hx hb dX5_prick_1 rfl ?_
  refine lv_lconst (v := 1) hx hb dX5_prick_2 (by decide) ?_
  refine lv_ldc2 (v := 9) hx hb hown (hts _ kw_501) dX5_prick_3 ?_
  refine x_callS0 ⟨hx, hb, hml, hown, hts⟩ hK hX hP hD hS hA (m_X5_in l g a1.toInt64 1 9) (va_cwS 3 hts (x_gS kw_129 kw_130 kw_5 kw_131) rfl rfl rfl vX5_inS ⟨Nat.le_of_ble_eq_true rfl, Nat.le_of_ble_eq_true rfl⟩) rfl hl.1 rfl (Nat.le_of_ble_eq_true rfl) dX5_prick_6 ⟨Nat.zero_le _, Nat.zero_le _⟩ (fun z_1 _ H locs hw_2 hP hD hS => ?_)
  obtain ⟨hw_2, b_3⟩ := hw_2
  have E := x_nm_eq E hw_2
  refine x_if_neI (tgt := 14) hx hb dX5_prick_9 (by decide) (fun c_5 => ?_) (fun c_5 => ?_)
  · have E := x_neg E c_5
    obtain ⟨j_7, hj⟩ : ∃ z, z = (a1).toNatClampNeg := ⟨_, rfl⟩
    have r_6_0 := (x_ins (lo := 1) (hi := 9) (by omega) (by omega) (fun q => c_5 (hw_2.trans q)))
    rw [← hj] at r_6_0
    obtain ⟨r_6_0_a, r_6_0_b, e_6_0⟩ := r_6_0
    have E := x_nm_eq E hj
    have hl : lv_has ls 2 [(0, .ref tA), (1, .int (nI j_7))] := by rw [e_6_0] at hl; exact hl
    refine lv_aload_n hx hb dX5_prick_14 rfl (lv_at hl 0 rfl) ?_
    refine lv_iconst (v := 0) hx hb dX5_prick_15 (by decide) ?_
    refine lv_iload_n hx hb dX5_prick_16 rfl (lv_at hl 1 rfl) ?_
    refine x_callVv (w2 := fun u => [(tA, .inr (5, [.int (nI t_length), .ref tA_text, .int (nI t_at), .int (nI t_begin), .int t_told, .ref tA_is, .ref tA_doings, .ref tA_doing, .int t_items, .ref tA_row, .ref tA_isKept, .int t_when, .int t_most, .int t_mostAt, .int t_hiss, .ref tA_best, .ref tA_heats, .ref tA_orders, .ref tA_has, .int (nI t_tests), .ref tA_salt, .ref tA_crumbs, .long t_traced, .int t_hasSkin, .int t_hasBend])), (tA_row, .inl (g.2.1 0, 80, .inl u))]) (wr := []) [0, 1] [] [0, 1] 0 5 ⟨hx, hb, hml, hown, hts⟩ hK hX hP hD hS hA (m_X5_pricked l g tA tA_row tA_text tA_is tA_doings tA_doing tA_isKept tA_best tA_heats tA_orders tA_has tA_salt tA_crumbs t_length t_at t_begin t_told t_items t_when t_most t_mostAt t_hiss t_tests t_traced t_hasSkin t_hasBend t_row 0 (nI j_7) (by first | assumption | omega | exact x_e8 (by assumption) (by assumption))) (cwV 2 hts (x_gV kw_502 kw_503 kw_504 kw_5 kw_505) rfl rfl rfl vX5_pricked ⟨Nat.le_of_ble_eq_true rfl, Nat.le_of_ble_eq_true rfl⟩) rfl rfl rfl rfl rfl rfl rfl (by decide) (fun _ => rfl) rfl rfl hl.1 rfl (Nat.le_of_ble_eq_true rfl) dX5_prick_17 ⟨Nat.zero_le _, Nat.zero_le _⟩ (fun t_row_8 H locs hw_9 hP hD hS => ?_)
    have hP : va_P g.1 vwCl [(tA, .inr (5, [.int (nI t_length), .ref tA_text, .int (nI t_at), .int (nI t_begin), .int t_told, .ref tA_is, .ref tA_doings, .ref tA_doing, .int t_items, .ref tA_row, .ref tA_isKept, .int t_when, .int t_most, .int t_mostAt, .int t_hiss, .ref tA_best, .ref tA_heats, .ref tA_orders, .ref tA_has, .int (nI t_tests), .ref tA_salt, .ref tA_crumbs, .long t_traced, .int t_hasSkin, .int t_hasBend])), (tA_row, .inl (g.2.1 0, 80, .inl t_row_8))] H := hP
    have hD : va_D A [(tA, .inr (5, [.int (nI t_length), .ref tA_text, .int (nI t_at), .int (nI t_begin), .int t_told, .ref tA_is, .ref tA_doings, .ref tA_doing, .int t_items, .ref tA_row, .ref tA_isKept, .int t_when, .int t_most, .int t_mostAt, .int t_hiss, .ref tA_best, .ref tA_heats, .ref tA_orders, .ref tA_has, .int (nI t_tests), .ref tA_salt, .ref tA_crumbs, .long t_traced, .int t_hasSkin, .int t_hasBend])), (tA_row, .inl (g.2.1 0, 80, .inl t_row_8))] := hD
    have E := x_nm_eq E hw_9
    refine lv_aload_n hx hb dX5_prick_20 rfl (lv_at hl 0 rfl) ?_
    refine va_get (ci := 5) (v := .ref tA_row) (C := RX5) (T := TX5) (N := 25) hx hb hts inlX5 hown hK.1 hP 0 rfl rfl 9 (by decide) (hts _ kw_97) (fun _ h9 => h9) rfl dX5_prick_21 ?_
    refine lv_bipush (v := 10) hx hb dX5_prick_24 (by decide) ?_
    refine x_ialdN hx hb hK hP 1 10 rfl (by omega) (by decide) dX5_prick_26 ?_
    exact RET (t_row_8 10) t_row_8 H locs _ _ (E.symm.trans hO) rfl hP hD hS dX5_prick_27
  · have E := x_pos E c_5
    refine lv_iconst (v := (-1)) hx hb dX5_prick_12 (by decide) ?_
    exact RET (-1) t_row H locs _ _ (E.symm.trans hO) rfl hP hD hS dX5_prick_13
abbrev rX5_spots : Room := { frames := 1, cells := 0, slots := 0, locals := 25 }
theorem vX5_spots : yX5_spots.cls = RX5 ∧ yX5_spots.cls ≠ "java/lang/invoke/MethodHandle" ∧ yX5_spots.cls ≠ "java/lang/invoke/VarHandle" ∧ (parseMethodDescriptor yX5_spots.desc).map (fun d => d.parameters.length) = some 1 := by decide +kernel
abbrev wX5_spots : List Cond := Cond.code yX5_spots cX5_spots 3 (some .int) :: wsL_law
def F_X5_spots (t_row : Nat → Int32) (a1 : Int32) : Int32 × (Nat → Int32) :=
  x_nm (F_X5_in a1.toInt64 0 15) fun z_1 => if z_1 = 0 then ((-1), t_row) else x_nm (a1.toNatClampNeg) fun j_7 => x_nm (upd t_row 11 (nI j_7)) fun t_row_8 => (t_row 11, t_row_8)
set_option maxHeartbeats 4000000 in
set_option maxRecDepth 100000 in
theorem m_X5_spots (l : Launch) (g : x_G) (tA tA_row tA_text tA_is tA_doings tA_doing tA_isKept tA_best tA_heats tA_orders tA_has tA_salt tA_crumbs : Nat) (t_length : Nat) (t_at : Nat) (t_begin : Nat) (t_told : Int32) (t_items : Int32) (t_when : Int32) (t_most : Int32) (t_mostAt : Int32) (t_hiss : Int32) (t_tests : Nat) (t_traced : Int64) (t_hasSkin : Int32) (t_hasBend : Int32) (t_row : Nat → Int32) (a1 : Int32) : x_MetI l yX5_spots wX5_spots rX5_spots g [.ref tA, .int a1] [(tA, .inr (5, [.int (nI t_length), .ref tA_text, .int (nI t_at), .int (nI t_begin), .int t_told, .ref tA_is, .ref tA_doings, .ref tA_doing, .int t_items, .ref tA_row, .ref tA_isKept, .int t_when, .int t_most, .int t_mostAt, .int t_hiss, .ref tA_best, .ref tA_heats, .ref tA_orders, .ref tA_has, .int (nI t_tests), .ref tA_salt, .ref tA_crumbs, .long t_traced, .int t_hasSkin, .int t_hasBend])), (tA_row, .inl (g.2.1 0, 80, .inl t_row))] (fun (r : Int32) (u : (Nat → Int32)) => (r, u) = F_X5_spots t_row a1) (fun u => [(tA, .inr (5, [.int (nI t_length), .ref tA_text, .int (nI t_at), .int (nI t_begin), .int t_told, .ref tA_is, .ref tA_doings, .ref tA_doing, .int t_items, .ref tA_row, .ref tA_isKept, .int t_when, .int t_most, .int t_mostAt, .int t_hiss, .ref tA_best, .ref tA_heats, .ref tA_orders, .ref tA_has, .int (nI t_tests), .ref tA_salt, .ref tA_crumbs, .long t_traced, .int t_hasSkin, .int t_hasBend])), (tA_row, .inl (g.2.1 0, 80, .inl u))]) := by
  refine x_startI (cc := cX5_spots) (maxL := 3) (by decide) rfl (Nat.le_of_ble_eq_true rfl) ?_
  intro p e s m args below meth c Q A ls H locs hx hb hml hown hts hK hX hP hD hS hA hl RET
  have hown : s.vm.findClass RX5 = some m.cls := hown
  have hl : lv_has ls 3 [(0, .ref tA), (1, .int a1)] := hl
  obtain ⟨o_0, hO⟩ : ∃ z, z = F_X5_spots t_row a1 := ⟨_, rfl⟩
  have E := hO
  rw [F_X5_spots.eq_1] at E
  refine lv_iload_n hx hb dX5_spots_0 rfl (lv_at hl 1 rfl) ?_
  refine lv_i2l (v := a1.toInt64) hx hb dX5_spots_1 rfl ?_
  refine lv_lconst (v := 0) hx hb dX5_spots_2 (by decide) ?_
  refine lv_ldc2 (v := 15) hx hb hown (hts _ kw_515) dX5_spots_3 ?_
  refine x_callS0 ⟨hx, hb, hml, hown, hts⟩ hK hX hP hD hS hA (m_X5_in l g a1.toInt64 0 15) (va_cwS 3 hts (x_gS kw_129 kw_130 kw_5 kw_131) rfl rfl rfl vX5_inS ⟨Nat.le_of_ble_eq_true rfl, Nat.le_of_ble_eq_true rfl⟩) rfl hl.1 rfl (Nat.le_of_ble_eq_true rfl) dX5_spots_6 ⟨Nat.zero_le _, Nat.zero_le _⟩ (fun z_1 _ H locs hw_2 hP hD hS => ?_)
  obtain ⟨hw_2, b_3⟩ := hw_2
  have E := x_nm_eq E hw_2
  refine x_if_neI (tgt := 14) hx hb dX5_spots_9 (by decide) (fun c_5 => ?_) (fun c_5 => ?_)
  · have E := x_neg E c_5
    obtain ⟨j_7, hj⟩ : ∃ z, z = (a1).toNatClampNeg := ⟨_, rfl⟩
    have r_6_0 := (x_ins (lo := 0) (hi := 15) (by omega) (by omega) (fun q => c_5 (hw_2.trans q)))
    rw [← hj] at r_6_0
    obtain ⟨r_6_0_a, r_6_0_b, e_6_0⟩ := r_6_0
    have E := x_nm_eq E hj
    have hl : lv_has ls 3 [(0, .ref tA), (1, .int (nI j_7))] := by rw [e_6_0] at hl; exact hl
    refine lv_aload_n hx hb dX5_spots_14 rfl (lv_at hl 0 rfl) ?_
    refine va_get (ci := 5) (v := .ref tA_row) (C := RX5) (T := TX5) (N := 25) hx hb hts inlX5 hown hK.1 hP 0 rfl rfl 9 (by decide) (hts _ kw_97) (fun _ h9 => h9) rfl dX5_spots_15 ?_
    refine lv_bipush (v := 11) hx hb dX5_spots_18 (by decide) ?_
    refine x_ialdN hx hb hK hP 1 11 rfl (by omega) (by decide) dX5_spots_20 ?_
    refine lv_istore_n (lv' := [(2, .int (t_row 11)), (0, .ref tA), (1, .int (nI j_7))]) hx hb dX5_spots_21 rfl hl (by decide) rfl (fun ls hl => ?_)
    refine lv_aload_n hx hb dX5_spots_22 rfl (lv_at hl 1 rfl) ?_
    refine va_get (ci := 5) (v := .ref tA_row) (C := RX5) (T := TX5) (N := 25) hx hb hts inlX5 hown hK.1 hP 0 rfl rfl 9 (by decide) (hts _ kw_97) (fun _ h9 => h9) rfl dX5_spots_23 ?_
    refine lv_bipush (v := 11) hx hb dX5_spots_26 (by decide) ?_
    refine lv_iload_n hx hb dX5_spots_28 rfl (lv_at hl 2 rfl) ?_
    refine x_iastN hx hb hK hP hD hS 1 11 rfl (by omega) (by decide) dX5_spots_29 (fun t_row_8 H locs hf hP hD hS => ?_)
    have hP : va_P g.1 vwCl [(tA, .inr (5, [.int (nI t_length), .ref tA_text, .int (nI t_at), .int (nI t_begin), .int t_told, .ref tA_is, .ref tA_doings, .ref tA_doing, .int t_items, .ref tA_row, .ref tA_isKept, .int t_when, .int t_most, .int t_mostAt, .int t_hiss, .ref tA_best, .ref tA_heats, .ref tA_orders, .ref tA_has, .int (nI t_tests), .ref tA_salt, .ref tA_crumbs, .long t_traced, .int t_hasSkin, .int t_hasBend])), (tA_row, .inl (g.2.1 0, 80, .inl t_row_8))] H := hP
    have hD : va_D A [(tA, .inr (5, [.int (nI t_length), .ref tA_text, .int (nI t_at), .int (nI t_begin), .int t_told, .ref tA_is, .ref tA_doings, .ref tA_doing, .int t_items, .ref tA_row, .ref tA_isKept, .int t_when, .int t_most, .int t_mostAt, .int t_hiss, .ref tA_best, .ref tA_heats, .ref tA_orders, .ref tA_has, .int (nI t_tests), .ref tA_salt, .ref tA_crumbs, .long t_traced, .int t_hasSkin, .int t_hasBend])), (tA_row, .inl (g.2.1 0, 80, .inl t_row_8))] := hD
    have E := x_nm_eq E hf
    refine lv_iload_n hx hb dX5_spots_30 rfl (lv_at hl 0 rfl) ?_
    exact RET (t_row 11) t_row_8 H locs _ _ (E.symm.trans hO) rfl hP hD hS dX5_spots_31
  · have E := x_pos E c_5
    refine lv_iconst (v := (-1)) hx hb dX5_spots_12 (by decide) ?_
    exact RET (-1) t_row H locs _ _ (E.symm.trans hO) rfl hP hD hS dX5_spots_13
abbrev rX5_face : Room := { frames := 1, cells := 0, slots := 0, locals := 25 }
theorem vX5_face : yX5_face.cls = RX5 ∧ yX5_face.cls ≠ "java/lang/invoke/MethodHandle" ∧ yX5_face.cls ≠ "java/lang/invoke/VarHandle" ∧ (parseMethodDescriptor yX5_face.desc).map (fun d => d.parameters.length) = some 2 := by decide +kernel
abbrev wX5_face : List Cond := Cond.code yX5_face cX5_face 3 (some .int) :: wsL_law
def F_X5_face (t_is : Nat → Int32) (t_row : Nat → Int32) (a1 : Int32) (a2 : Int32) : Int32 :=
  x_nm (F_X5_in a1.toInt64 0 3) fun z_1 => if z_1 = 0 then (-1) else x_nm (a1.toNatClampNeg) fun j_7 => x_nm (F_X5_in a2.toInt64 0 3) fun z_8 => if z_8 = 0 then (-1) else x_nm (a2.toNatClampNeg) fun j_14 => x_nm (α := Int32) (if j_14 = 0 then t_row j_7 else if j_14 = 1 then t_row (5 + j_7) else if j_14 = 2 then x_nm (F_X5_holdsAt t_is t_row 0 j_7) fun z_26 => z_26 else x_nm (F_X5_press t_is t_row 0) fun z_20 => x_nm (F_X5_pulls t_is z_20 (nI j_7)) fun z_23 => z_23) fun u_16 => u_16
set_option maxHeartbeats 4000000 in
set_option maxRecDepth 100000 in
theorem m_X5_face (l : Launch) (g : x_G) (tA tA_is tA_row tA_text tA_doings tA_doing tA_isKept tA_best tA_heats tA_orders tA_has tA_salt tA_crumbs : Nat) (t_length : Nat) (t_at : Nat) (t_begin : Nat) (t_told : Int32) (t_items : Int32) (t_when : Int32) (t_most : Int32) (t_mostAt : Int32) (t_hiss : Int32) (t_tests : Nat) (t_traced : Int64) (t_hasSkin : Int32) (t_hasBend : Int32) (t_is : Nat → Int32) (t_row : Nat → Int32) (a1 : Int32) (a2 : Int32) : x_MetI l yX5_face wX5_face rX5_face g [.ref tA, .int a1, .int a2] [(tA, .inr (5, [.int (nI t_length), .ref tA_text, .int (nI t_at), .int (nI t_begin), .int t_told, .ref tA_is, .ref tA_doings, .ref tA_doing, .int t_items, .ref tA_row, .ref tA_isKept, .int t_when, .int t_most, .int t_mostAt, .int t_hiss, .ref tA_best, .ref tA_heats, .ref tA_orders, .ref tA_has, .int (nI t_tests), .ref tA_salt, .ref tA_crumbs, .long t_traced, .int t_hasSkin, .int t_hasBend])), (tA_is, .inl (g.2.1 0, 18, .inl t_is)), (tA_row, .inl (g.2.1 0, 80, .inl t_row))] (fun (r : Int32) (u : Unit) => r = F_X5_face t_is t_row a1 a2) (fun _ => [(tA, .inr (5, [.int (nI t_length), .ref tA_text, .int (nI t_at), .int (nI t_begin), .int t_told, .ref tA_is, .ref tA_doings, .ref tA_doing, .int t_items, .ref tA_row, .ref tA_isKept, .int t_when, .int t_most, .int t_mostAt, .int t_hiss, .ref tA_best, .ref tA_heats, .ref tA_orders, .ref tA_has, .int (nI t_tests), .ref tA_salt, .ref tA_crumbs, .long t_traced, .int t_hasSkin, .int t_hasBend])), (tA_is, .inl (g.2.1 0, 18, .inl t_is)), (tA_row, .inl (g.2.1 0, 80, .inl t_row))]) := by
  refine x_startI (cc := cX5_face) (maxL := 3) (by decide) rfl (Nat.le_of_ble_eq_true rfl) ?_
  intro p e s m args below meth c Q A ls H locs hx hb hml hown hts hK hX hP hD hS hA hl RET
  have hown : s.vm.findClass RX5 = some m.cls := hown
  have hl : lv_has ls 3 [(0, .ref tA), (1, .int a1), (2, .int a2)] := hl
  obtain ⟨o_0, hO⟩ : ∃ z, z = F_X5_face t_is t_row a1 a2 := ⟨_, rfl⟩
  have E := hO
  rw [F_X5_face.eq_1] at E
  refine lv_iload_n hx hb dX5_face_0 rfl (lv_at hl 1 rfl) ?_
  refine lv_i2l (v := a1.toInt64) hx hb dX5_face_1 rfl ?_
  refine lv_lconst (v := 0) hx hb dX5_face_2 (by decide) ?_
  refine lv_ldc2 (v := 3) hx hb hown (hts _ kw_483) dX5_face_3 ?_
  refine x_callS0 ⟨hx, hb, hml, hown, hts⟩ hK hX hP hD hS hA (m_X5_in l g a1.toInt64 0 3) (va_cwS 3 hts (x_gS kw_129 kw_130 kw_5 kw_131) rfl rfl rfl vX5_inS ⟨Nat.le_of_ble_eq_true rfl, Nat.le_of_ble_eq_true rfl⟩) rfl hl.1 rfl (Nat.le_of_ble_eq_true rfl) dX5_face_6 ⟨Nat.zero_le _, Nat.zero_le _⟩ (fun z_1 _ H locs hw_2 hP hD hS => ?_)
  obtain ⟨hw_2, b_3⟩ := hw_2
  have E := x_nm_eq E hw_2
  refine lv_if_eq (tgt := 24) hx hb dX5_face_9 (by decide) (fun c_5 => ?_) (fun c_5 => ?_)
  · have E := x_pos E c_5
    refine lv_iconst (v := (-1)) hx hb dX5_face_24 (by decide) ?_
    exact RET (-1) () H locs _ _ (E.symm.trans hO) rfl hP hD hS dX5_face_25
  · have E := x_neg E c_5
    obtain ⟨j_7, hj⟩ : ∃ z, z = (a1).toNatClampNeg := ⟨_, rfl⟩
    have r_6_0 := (x_ins (lo := 0) (hi := 3) (by omega) (by omega) (fun q => c_5 (hw_2.trans q)))
    rw [← hj] at r_6_0
    obtain ⟨r_6_0_a, r_6_0_b, e_6_0⟩ := r_6_0
    have E := x_nm_eq E hj
    have hl : lv_has ls 3 [(0, .ref tA), (1, .int (nI j_7)), (2, .int a2)] := by rw [e_6_0] at hl; exact hl
    refine lv_iload_n hx hb dX5_face_12 rfl (lv_at hl 2 rfl) ?_
    refine lv_i2l (v := a2.toInt64) hx hb dX5_face_13 rfl ?_
    refine lv_lconst (v := 0) hx hb dX5_face_14 (by decide) ?_
    refine lv_ldc2 (v := 3) hx hb hown (hts _ kw_483) dX5_face_15 ?_
    refine x_callS0 ⟨hx, hb, hml, hown, hts⟩ hK hX hP hD hS hA (m_X5_in l g a2.toInt64 0 3) (va_cwS 3 hts (x_gS kw_129 kw_130 kw_5 kw_131) rfl rfl rfl vX5_inS ⟨Nat.le_of_ble_eq_true rfl, Nat.le_of_ble_eq_true rfl⟩) rfl hl.1 rfl (Nat.le_of_ble_eq_true rfl) dX5_face_18 ⟨Nat.zero_le _, Nat.zero_le _⟩ (fun z_8 _ H locs hw_9 hP hD hS => ?_)
    obtain ⟨hw_9, b_10⟩ := hw_9
    have E := x_nm_eq E hw_9
    refine x_if_neI (tgt := 26) hx hb dX5_face_21 (by decide) (fun c_12 => ?_) (fun c_12 => ?_)
    · have E := x_neg E c_12
      obtain ⟨j_14, hj⟩ : ∃ z, z = (a2).toNatClampNeg := ⟨_, rfl⟩
      have r_13_0 := (x_ins (lo := 0) (hi := 3) (by omega) (by omega) (fun q => c_12 (hw_9.trans q)))
      rw [← hj] at r_13_0
      obtain ⟨r_13_0_a, r_13_0_b, e_13_0⟩ := r_13_0
      have E := x_nm_eq E hj
      have hl : lv_has ls 3 [(0, .ref tA), (1, .int (nI j_7)), (2, .int (nI j_14))] := by rw [e_13_0] at hl; exact hl
      refine lv_iload_n hx hb dX5_face_26 rfl (lv_at hl 2 rfl) ?_
      obtain ⟨o_16, E_16, E⟩ := x_nm_ex E
      have J_16 : ∀ (v_15 : Int32), o_16 = v_15 → ∀ (H : Heap) (locs : List Loc) (ls : Array Slot), va_P g.1 vwCl [(tA, .inr (5, [.int (nI t_length), .ref tA_text, .int (nI t_at), .int (nI t_begin), .int t_told, .ref tA_is, .ref tA_doings, .ref tA_doing, .int t_items, .ref tA_row, .ref tA_isKept, .int t_when, .int t_most, .int t_mostAt, .int t_hiss, .ref tA_best, .ref tA_heats, .ref tA_orders, .ref tA_has, .int (nI t_tests), .ref tA_salt, .ref tA_crumbs, .long t_traced, .int t_hasSkin, .int t_hasBend])), (tA_is, .inl (g.2.1 0, 18, .inl t_is)), (tA_row, .inl (g.2.1 0, 80, .inl t_row))] H → va_D A [(tA, .inr (5, [.int (nI t_length), .ref tA_text, .int (nI t_at), .int (nI t_begin), .int t_told, .ref tA_is, .ref tA_doings, .ref tA_doing, .int t_items, .ref tA_row, .ref tA_isKept, .int t_when, .int t_most, .int t_mostAt, .int t_hiss, .ref tA_best, .ref tA_heats, .ref tA_orders, .ref tA_has, .int (nI t_tests), .ref tA_salt, .ref tA_crumbs, .long t_traced, .int t_hasSkin, .int t_hasBend])), (tA_is, .inl (g.2.1 0, 18, .inl t_is)), (tA_row, .inl (g.2.1 0, 80, .inl t_row))] → va_S A s.heap H locs → lv_has ls 3 [] → W p l e rX5_face s m args below meth c H locs 0 0 Q (F0 m 79 ls [.int v_15]) := by
        intro v_15 hE  H locs ls hP hD hS hl
        try rw [hE] at E
        exact RET v_15 () H locs _ _ (E.symm.trans hO) rfl hP hD hS dX5_face_79
      have E := E_16
      refine x_if_ne (a := j_14) (tgt := 39) hx hb (by omega) dX5_face_27 (by decide) (fun c_17 => ?_) (fun c_17 => ?_)
      · have E := x_neg E c_17
        refine lv_iload_n hx hb dX5_face_39 rfl (lv_at hl 2 rfl) ?_
        refine lv_iconst (v := 1) hx hb dX5_face_40 (by decide) ?_
        refine x_icmp_ne (a := j_14) (b := 1) (tgt := 55) hx hb (by omega) (by omega) dX5_face_41 (by decide) (fun c_18 => ?_) (fun c_18 => ?_)
        · have E := x_neg E c_18
          refine lv_iload_n hx hb dX5_face_55 rfl (lv_at hl 2 rfl) ?_
          refine lv_iconst (v := 2) hx hb dX5_face_56 (by decide) ?_
          refine x_icmp_ne (a := j_14) (b := 2) (tgt := 69) hx hb (by omega) (by omega) dX5_face_57 (by decide) (fun c_19 => ?_) (fun c_19 => ?_)
          · have E := x_neg E c_19
            refine lv_aload_n hx hb dX5_face_69 rfl (lv_at hl 0 rfl) ?_
            refine lv_aload_n hx hb dX5_face_70 rfl (lv_at hl 0 rfl) ?_
            refine lv_iconst (v := 0) hx hb dX5_face_71 (by decide) ?_
            refine x_callVi (w2 := fun u => [(tA, .inr (5, [.int (nI t_length), .ref tA_text, .int (nI t_at), .int (nI t_begin), .int t_told, .ref tA_is, .ref tA_doings, .ref tA_doing, .int t_items, .ref tA_row, .ref tA_isKept, .int t_when, .int t_most, .int t_mostAt, .int t_hiss, .ref tA_best, .ref tA_heats, .ref tA_orders, .ref tA_has, .int (nI t_tests), .ref tA_salt, .ref tA_crumbs, .long t_traced, .int t_hasSkin, .int t_hasBend])), (tA_is, .inl (g.2.1 0, 18, .inl t_is)), (tA_row, .inl (g.2.1 0, 80, .inl t_row))]) (wr := []) [0, 1, 2] [] [0, 1, 2] 0 5 ⟨hx, hb, hml, hown, hts⟩ hK hX hP hD hS hA (m_X5_press l g tA tA_is tA_row tA_text tA_doings tA_doing tA_isKept tA_best tA_heats tA_orders tA_has tA_salt tA_crumbs t_length t_at t_begin t_told t_items t_when t_most t_mostAt t_hiss t_tests t_traced t_hasSkin t_hasBend t_is t_row 0 (by first | assumption | omega | exact x_e8 (by assumption) (by assumption))) (cwV 1 hts (x_gV kw_448 kw_449 kw_450 kw_5 kw_451) rfl rfl rfl vX5_press ⟨Nat.le_of_ble_eq_true rfl, Nat.le_of_ble_eq_true rfl⟩) rfl rfl rfl rfl rfl rfl rfl (by decide) (fun _ => rfl) rfl rfl hl.1 rfl (Nat.le_of_ble_eq_true rfl) dX5_face_72 ⟨Nat.zero_le _, Nat.zero_le _⟩ (fun z_20 _ H locs hw_21 hP hD hS => ?_)
            have E := x_nm_eq E hw_21
            refine lv_iload_n hx hb dX5_face_75 rfl (lv_at hl 1 rfl) ?_
            refine x_callVi (w2 := fun u => [(tA, .inr (5, [.int (nI t_length), .ref tA_text, .int (nI t_at), .int (nI t_begin), .int t_told, .ref tA_is, .ref tA_doings, .ref tA_doing, .int t_items, .ref tA_row, .ref tA_isKept, .int t_when, .int t_most, .int t_mostAt, .int t_hiss, .ref tA_best, .ref tA_heats, .ref tA_orders, .ref tA_has, .int (nI t_tests), .ref tA_salt, .ref tA_crumbs, .long t_traced, .int t_hasSkin, .int t_hasBend])), (tA_is, .inl (g.2.1 0, 18, .inl t_is)), (tA_row, .inl (g.2.1 0, 80, .inl t_row))]) (wr := [(tA_row, .inl (g.2.1 0, 80, .inl t_row))]) [0, 1] [2] [1, 2, 0] 0 5 ⟨hx, hb, hml, hown, hts⟩ hK hX hP hD hS hA (m_X5_pulls l g tA tA_is tA_text tA_doings tA_doing tA_row tA_isKept tA_best tA_heats tA_orders tA_has tA_salt tA_crumbs t_length t_at t_begin t_told t_items t_when t_most t_mostAt t_hiss t_tests t_traced t_hasSkin t_hasBend t_is z_20 (nI j_7)) (cwV 2 hts (x_gV kw_452 kw_453 kw_454 kw_5 kw_455) rfl rfl rfl vX5_pulls ⟨Nat.le_of_ble_eq_true rfl, Nat.le_of_ble_eq_true rfl⟩) rfl rfl rfl rfl rfl rfl rfl (by decide) (fun _ => rfl) rfl rfl hl.1 rfl (Nat.le_of_ble_eq_true rfl) dX5_face_76 ⟨Nat.zero_le _, Nat.zero_le _⟩ (fun z_23 _ H locs hw_24 hP hD hS => ?_)
            have E := x_nm_eq E hw_24
            exact J_16 z_23 E  H locs ls hP hD hS (lv_sub hl [] rfl)
          · have E := x_pos E c_19
            refine lv_aload_n hx hb dX5_face_60 rfl (lv_at hl 0 rfl) ?_
            refine lv_iconst (v := 0) hx hb dX5_face_61 (by decide) ?_
            refine lv_iload_n hx hb dX5_face_62 rfl (lv_at hl 1 rfl) ?_
            refine x_callVi (w2 := fun u => [(tA, .inr (5, [.int (nI t_length), .ref tA_text, .int (nI t_at), .int (nI t_begin), .int t_told, .ref tA_is, .ref tA_doings, .ref tA_doing, .int t_items, .ref tA_row, .ref tA_isKept, .int t_when, .int t_most, .int t_mostAt, .int t_hiss, .ref tA_best, .ref tA_heats, .ref tA_orders, .ref tA_has, .int (nI t_tests), .ref tA_salt, .ref tA_crumbs, .long t_traced, .int t_hasSkin, .int t_hasBend])), (tA_is, .inl (g.2.1 0, 18, .inl t_is)), (tA_row, .inl (g.2.1 0, 80, .inl t_row))]) (wr := []) [0, 1, 2] [] [0, 1, 2] 0 5 ⟨hx, hb, hml, hown, hts⟩ hK hX hP hD hS hA (m_X5_holdsAt l g tA tA_is tA_row tA_text tA_doings tA_doing tA_isKept tA_best tA_heats tA_orders tA_has tA_salt tA_crumbs t_length t_at t_begin t_told t_items t_when t_most t_mostAt t_hiss t_tests t_traced t_hasSkin t_hasBend t_is t_row 0 j_7 (by first | assumption | omega | exact x_e8 (by assumption) (by assumption)) (by first | assumption | omega | exact x_e8 (by assumption) (by assumption))) (cwV 2 hts (x_gV kw_456 kw_457 kw_458 kw_5 kw_459) rfl rfl rfl vX5_holdsAt ⟨Nat.le_of_ble_eq_true rfl, Nat.le_of_ble_eq_true rfl⟩) rfl rfl rfl rfl rfl rfl rfl (by decide) (fun _ => rfl) rfl rfl hl.1 rfl (Nat.le_of_ble_eq_true rfl) dX5_face_63 ⟨Nat.zero_le _, Nat.zero_le _⟩ (fun z_26 _ H locs hw_27 hP hD hS => ?_)
            have E := x_nm_eq E hw_27
            refine lv_goto (tgt := 79) hx hb dX5_face_66 (by decide) ?_
            exact J_16 z_26 E  H locs ls hP hD hS (lv_sub hl [] rfl)
        · have E := x_pos E c_18
          refine lv_aload_n hx hb dX5_face_44 rfl (lv_at hl 0 rfl) ?_
          refine va_get (ci := 5) (v := .ref tA_row) (C := RX5) (T := TX5) (N := 25) hx hb hts inlX5 hown hK.1 hP 0 rfl rfl 9 (by decide) (hts _ kw_97) (fun _ h9 => h9) rfl dX5_face_45 ?_
          refine lv_iconst (v := 5) hx hb dX5_face_48 (by decide) ?_
          refine lv_iload_n hx hb dX5_face_49 rfl (lv_at hl 1 rfl) ?_
          refine lv_iadd hx hb dX5_face_50 ?_
          refine x_eqi (nI_add 5 j_7) ?_
          refine x_ialdN hx hb hK hP 2 (5 + j_7) rfl (by omega) (by decide) dX5_face_51 ?_
          refine lv_goto (tgt := 79) hx hb dX5_face_52 (by decide) ?_
          exact J_16 (t_row (5 + j_7)) E  H locs ls hP hD hS (lv_sub hl [] rfl)
      · have E := x_pos E c_17
        refine lv_aload_n hx hb dX5_face_30 rfl (lv_at hl 0 rfl) ?_
        refine va_get (ci := 5) (v := .ref tA_row) (C := RX5) (T := TX5) (N := 25) hx hb hts inlX5 hown hK.1 hP 0 rfl rfl 9 (by decide) (hts _ kw_97) (fun _ h9 => h9) rfl dX5_face_31 ?_
        refine lv_iload_n hx hb dX5_face_34 rfl (lv_at hl 1 rfl) ?_
        refine x_ialdN hx hb hK hP 2 j_7 rfl (by omega) (by decide) dX5_face_35 ?_
        refine lv_goto (tgt := 79) hx hb dX5_face_36 (by decide) ?_
        exact J_16 (t_row j_7) E  H locs ls hP hD hS (lv_sub hl [] rfl)
    · have E := x_pos E c_12
      refine lv_iconst (v := (-1)) hx hb dX5_face_24 (by decide) ?_
      exact RET (-1) () H locs _ _ (E.symm.trans hO) rfl hP hD hS dX5_face_25
abbrev rX5_now : Room := { frames := 1, cells := 0, slots := 0, locals := 24 }
theorem vX5_now : yX5_now.cls = RX5 ∧ yX5_now.cls ≠ "java/lang/invoke/MethodHandle" ∧ yX5_now.cls ≠ "java/lang/invoke/VarHandle" ∧ (parseMethodDescriptor yX5_now.desc).map (fun d => d.parameters.length) = some 1 := by decide +kernel
abbrev wX5_now : List Cond := Cond.code yX5_now cX5_now 2 (some .int) :: wsL_law
def F_X5_now (t_is : Nat → Int32) (t_row : Nat → Int32) (a1 : Int32) : Int32 :=
  if a1 = 0 then t_row 16 else if a1 = 1 then t_row 4 else if a1 = 2 then t_row 9 else if a1 = 3 then t_row 10 else if a1 = 4 then t_row 12 else if a1 = 5 then t_row 13 else if a1 = 6 then t_row 14 else if a1 = 7 then x_nm (F_X5_press t_is t_row 0) fun z_9 => z_9 else if a1 = 8 then x_nm (F_X5_press t_is t_row 0) fun z_13 => (z_13 * (t_is 0)) / 2 else if a1 = 9 then t_row 15 else (-1)
set_option maxHeartbeats 4000000 in
set_option maxRecDepth 100000 in
theorem m_X5_now (l : Launch) (g : x_G) (tA tA_is tA_row tA_text tA_doings tA_doing tA_isKept tA_best tA_heats tA_orders tA_has tA_salt tA_crumbs : Nat) (t_length : Nat) (t_at : Nat) (t_begin : Nat) (t_told : Int32) (t_items : Int32) (t_when : Int32) (t_most : Int32) (t_mostAt : Int32) (t_hiss : Int32) (t_tests : Nat) (t_traced : Int64) (t_hasSkin : Int32) (t_hasBend : Int32) (t_is : Nat → Int32) (t_row : Nat → Int32) (a1 : Int32) : x_MetI l yX5_now wX5_now rX5_now g [.ref tA, .int a1] [(tA, .inr (5, [.int (nI t_length), .ref tA_text, .int (nI t_at), .int (nI t_begin), .int t_told, .ref tA_is, .ref tA_doings, .ref tA_doing, .int t_items, .ref tA_row, .ref tA_isKept, .int t_when, .int t_most, .int t_mostAt, .int t_hiss, .ref tA_best, .ref tA_heats, .ref tA_orders, .ref tA_has, .int (nI t_tests), .ref tA_salt, .ref tA_crumbs, .long t_traced, .int t_hasSkin, .int t_hasBend])), (tA_is, .inl (g.2.1 0, 18, .inl t_is)), (tA_row, .inl (g.2.1 0, 80, .inl t_row))] (fun (r : Int32) (u : Unit) => r = F_X5_now t_is t_row a1) (fun _ => [(tA, .inr (5, [.int (nI t_length), .ref tA_text, .int (nI t_at), .int (nI t_begin), .int t_told, .ref tA_is, .ref tA_doings, .ref tA_doing, .int t_items, .ref tA_row, .ref tA_isKept, .int t_when, .int t_most, .int t_mostAt, .int t_hiss, .ref tA_best, .ref tA_heats, .ref tA_orders, .ref tA_has, .int (nI t_tests), .ref tA_salt, .ref tA_crumbs, .long t_traced, .int t_hasSkin, .int t_hasBend])), (tA_is, .inl (g.2.1 0, 18, .inl t_is)), (tA_row, .inl (g.2.1 0, 80, .inl t_row))]) := by
  refine x_startI (cc := cX5_now) (maxL := 2) (by decide) rfl (Nat.le_of_ble_eq_true rfl) ?_
  intro p e s m args below meth c Q A ls H locs hx hb hml hown hts hK hX hP hD hS hA hl RET
  have hown : s.vm.findClass RX5 = some m.cls := hown
  have hl : lv_has ls 2 [(0, .ref tA), (1, .int a1)] := hl
  obtain ⟨o_0, hO⟩ : ∃ z, z = F_X5_now t_is t_row a1 := ⟨_, rfl⟩
  have E := hO
  rw [F_X5_now.eq_1] at E
  refine lv_iload_n hx hb dX5_now_0 rfl (lv_at hl 1 rfl) ?_
  by_cases c_1 : a1 = 0
  · have E := x_pos E c_1
    refine lv_tableIn (off := 55) (tgt := 56) hx hb dX5_now_1 (by rw [c_1]; decide) (by rw [c_1]; decide) (by rw [c_1]; decide) (by decide) ?_
    refine lv_aload_n hx hb dX5_now_56 rfl (lv_at hl 0 rfl) ?_
    refine va_get (ci := 5) (v := .ref tA_row) (C := RX5) (T := TX5) (N := 25) hx hb hts inlX5 hown hK.1 hP 0 rfl rfl 9 (by decide) (hts _ kw_97) (fun _ h9 => h9) rfl dX5_now_57 ?_
    refine lv_bipush (v := 16) hx hb dX5_now_60 (by decide) ?_
    refine x_ialdN hx hb hK hP 2 16 rfl (by omega) (by decide) dX5_now_62 ?_
    exact RET (t_row 16) () H locs _ _ (E.symm.trans hO) rfl hP hD hS dX5_now_63
  have E := x_neg E c_1
  by_cases c_2 : a1 = 1
  · have E := x_pos E c_2
    refine lv_tableIn (off := 63) (tgt := 64) hx hb dX5_now_1 (by rw [c_2]; decide) (by rw [c_2]; decide) (by rw [c_2]; decide) (by decide) ?_
    refine lv_aload_n hx hb dX5_now_64 rfl (lv_at hl 0 rfl) ?_
    refine va_get (ci := 5) (v := .ref tA_row) (C := RX5) (T := TX5) (N := 25) hx hb hts inlX5 hown hK.1 hP 0 rfl rfl 9 (by decide) (hts _ kw_97) (fun _ h9 => h9) rfl dX5_now_65 ?_
    refine lv_iconst (v := 4) hx hb dX5_now_68 (by decide) ?_
    refine x_ialdN hx hb hK hP 2 4 rfl (by omega) (by decide) dX5_now_69 ?_
    exact RET (t_row 4) () H locs _ _ (E.symm.trans hO) rfl hP hD hS dX5_now_70
  have E := x_neg E c_2
  by_cases c_3 : a1 = 2
  · have E := x_pos E c_3
    refine lv_tableIn (off := 70) (tgt := 71) hx hb dX5_now_1 (by rw [c_3]; decide) (by rw [c_3]; decide) (by rw [c_3]; decide) (by decide) ?_
    refine lv_aload_n hx hb dX5_now_71 rfl (lv_at hl 0 rfl) ?_
    refine va_get (ci := 5) (v := .ref tA_row) (C := RX5) (T := TX5) (N := 25) hx hb hts inlX5 hown hK.1 hP 0 rfl rfl 9 (by decide) (hts _ kw_97) (fun _ h9 => h9) rfl dX5_now_72 ?_
    refine lv_bipush (v := 9) hx hb dX5_now_75 (by decide) ?_
    refine x_ialdN hx hb hK hP 2 9 rfl (by omega) (by decide) dX5_now_77 ?_
    exact RET (t_row 9) () H locs _ _ (E.symm.trans hO) rfl hP hD hS dX5_now_78
  have E := x_neg E c_3
  by_cases c_4 : a1 = 3
  · have E := x_pos E c_4
    refine lv_tableIn (off := 78) (tgt := 79) hx hb dX5_now_1 (by rw [c_4]; decide) (by rw [c_4]; decide) (by rw [c_4]; decide) (by decide) ?_
    refine lv_aload_n hx hb dX5_now_79 rfl (lv_at hl 0 rfl) ?_
    refine va_get (ci := 5) (v := .ref tA_row) (C := RX5) (T := TX5) (N := 25) hx hb hts inlX5 hown hK.1 hP 0 rfl rfl 9 (by decide) (hts _ kw_97) (fun _ h9 => h9) rfl dX5_now_80 ?_
    refine lv_bipush (v := 10) hx hb dX5_now_83 (by decide) ?_
    refine x_ialdN hx hb hK hP 2 10 rfl (by omega) (by decide) dX5_now_85 ?_
    exact RET (t_row 10) () H locs _ _ (E.symm.trans hO) rfl hP hD hS dX5_now_86
  have E := x_neg E c_4
  by_cases c_5 : a1 = 4
  · have E := x_pos E c_5
    refine lv_tableIn (off := 86) (tgt := 87) hx hb dX5_now_1 (by rw [c_5]; decide) (by rw [c_5]; decide) (by rw [c_5]; decide) (by decide) ?_
    refine lv_aload_n hx hb dX5_now_87 rfl (lv_at hl 0 rfl) ?_
    refine va_get (ci := 5) (v := .ref tA_row) (C := RX5) (T := TX5) (N := 25) hx hb hts inlX5 hown hK.1 hP 0 rfl rfl 9 (by decide) (hts _ kw_97) (fun _ h9 => h9) rfl dX5_now_88 ?_
    refine lv_bipush (v := 12) hx hb dX5_now_91 (by decide) ?_
    refine x_ialdN hx hb hK hP 2 12 rfl (by omega) (by decide) dX5_now_93 ?_
    exact RET (t_row 12) () H locs _ _ (E.symm.trans hO) rfl hP hD hS dX5_now_94
  have E := x_neg E c_5
  by_cases c_6 : a1 = 5
  · have E := x_pos E c_6
    refine lv_tableIn (off := 94) (tgt := 95) hx hb dX5_now_1 (by rw [c_6]; decide) (by rw [c_6]; decide) (by rw [c_6]; decide) (by decide) ?_
    refine lv_aload_n hx hb dX5_now_95 rfl (lv_at hl 0 rfl) ?_
    refine va_get (ci := 5) (v := .ref tA_row) (C := RX5) (T := TX5) (N := 25) hx hb hts inlX5 hown hK.1 hP 0 rfl rfl 9 (by decide) (hts _ kw_97) (fun _ h9 => h9) rfl dX5_now_96 ?_
    refine lv_bipush (v := 13) hx hb dX5_now_99 (by decide) ?_
    refine x_ialdN hx hb hK hP 2 13 rfl (by omega) (by decide) dX5_now_101 ?_
    exact RET (t_row 13) () H locs _ _ (E.symm.trans hO) rfl hP hD hS dX5_now_102
  have E := x_neg E c_6
  by_cases c_7 : a1 = 6
  · have E := x_pos E c_7
    refine lv_tableIn (off := 102) (tgt := 103) hx hb dX5_now_1 (by rw [c_7]; decide) (by rw [c_7]; decide) (by rw [c_7]; decide) (by decide) ?_
    refine lv_aload_n hx hb dX5_now_103 rfl (lv_at hl 0 rfl) ?_
    refine va_get (ci := 5) (v := .ref tA_row) (C := RX5) (T := TX5) (N := 25) hx hb hts inlX5 hown hK.1 hP 0 rfl rfl 9 (by decide) (hts _ kw_97) (fun _ h9 => h9) rfl dX5_now_104 ?_
    refine lv_bipush (v := 14) hx hb dX5_now_107 (by decide) ?_
    refine x_ialdN hx hb hK hP 2 14 rfl (by omega) (by decide) dX5_now_109 ?_
    exact RET (t_row 14) () H locs _ _ (E.symm.trans hO) rfl hP hD hS dX5_now_110
  have E := x_neg E c_7
  by_cases c_8 : a1 = 7
  · have E := x_pos E c_8
    refine lv_tableIn (off := 110) (tgt := 111) hx hb dX5_now_1 (by rw [c_8]; decide) (by rw [c_8]; decide) (by rw [c_8]; decide) (by decide) ?_
    refine lv_aload_n hx hb dX5_now_111 rfl (lv_at hl 0 rfl) ?_
    refine lv_iconst (v := 0) hx hb dX5_now_112 (by decide) ?_
    refine x_callVi (w2 := fun u => [(tA, .inr (5, [.int (nI t_length), .ref tA_text, .int (nI t_at), .int (nI t_begin), .int t_told, .ref tA_is, .ref tA_doings, .ref tA_doing, .int t_items, .ref tA_row, .ref tA_isKept, .int t_when, .int t_most, .int t_mostAt, .int t_hiss, .ref tA_best, .ref tA_heats, .ref tA_orders, .ref tA_has, .int (nI t_tests), .ref tA_salt, .ref tA_crumbs, .long t_traced, .int t_hasSkin, .int t_hasBend])), (tA_is, .inl (g.2.1 0, 18, .inl t_is)), (tA_row, .inl (g.2.1 0, 80, .inl t_row))]) (wr := []) [0, 1, 2] [] [0, 1, 2] 0 5 ⟨hx, hb, hml, hown, hts⟩ hK hX hP hD hS hA (m_X5_press l g tA tA_is tA_row tA_text tA_doings tA_doing tA_isKept tA_best tA_heats tA_orders tA_has tA_salt tA_crumbs t_length t_at t_begin t_told t_items t_when t_most t_mostAt t_hiss t_tests t_traced t_hasSkin t_hasBend t_is t_row 0 (by first | assumption | omega | exact x_e8 (by assumption) (by assumption))) (cwV 1 hts (x_gV kw_448 kw_449 kw_450 kw_5 kw_451) rfl rfl rfl vX5_press ⟨Nat.le_of_ble_eq_true rfl, Nat.le_of_ble_eq_true rfl⟩) rfl rfl rfl rfl rfl rfl rfl (by decide) (fun _ => rfl) rfl rfl hl.1 rfl (Nat.le_of_ble_eq_true rfl) dX5_now_113 ⟨Nat.zero_le _, Nat.zero_le _⟩ (fun z_9 _ H locs hw_10 hP hD hS => ?_)
    have E := x_nm_eq E hw_10
    exact RET z_9 () H locs _ _ (E.symm.trans hO) rfl hP hD hS dX5_now_116
  have E := x_neg E c_8
  by_cases c_12 : a1 = 8
  · have E := x_pos E c_12
    refine lv_tableIn (off := 116) (tgt := 117) hx hb dX5_now_1 (by rw [c_12]; decide) (by rw [c_12]; decide) (by rw [c_12]; decide) (by decide) ?_
    refine lv_aload_n hx hb dX5_now_117 rfl (lv_at hl 0 rfl) ?_
    refine lv_iconst (v := 0) hx hb dX5_now_118 (by decide) ?_
    refine x_callVi (w2 := fun u => [(tA, .inr (5, [.int (nI t_length), .ref tA_text, .int (nI t_at), .int (nI t_begin), .int t_told, .ref tA_is, .ref tA_doings, .ref tA_doing, .int t_items, .ref tA_row, .ref tA_isKept, .int t_when, .int t_most, .int t_mostAt, .int t_hiss, .ref tA_best, .ref tA_heats, .ref tA_orders, .ref tA_has, .int (nI t_tests), .ref tA_salt, .ref tA_crumbs, .long t_traced, .int t_hasSkin, .int t_hasBend])), (tA_is, .inl (g.2.1 0, 18, .inl t_is)), (tA_row, .inl (g.2.1 0, 80, .inl t_row))]) (wr := []) [0, 1, 2] [] [0, 1, 2] 0 5 ⟨hx, hb, hml, hown, hts⟩ hK hX hP hD hS hA (m_X5_press l g tA tA_is tA_row tA_text tA_doings tA_doing tA_isKept tA_best tA_heats tA_orders tA_has tA_salt tA_crumbs t_length t_at t_begin t_told t_items t_when t_most t_mostAt t_hiss t_tests t_traced t_hasSkin t_hasBend t_is t_row 0 (by first | assumption | omega | exact x_e8 (by assumption) (by assumption))) (cwV 1 hts (x_gV kw_448 kw_449 kw_450 kw_5 kw_451) rfl rfl rfl vX5_press ⟨Nat.le_of_ble_eq_true rfl, Nat.le_of_ble_eq_true rfl⟩) rfl rfl rfl rfl rfl rfl rfl (by decide) (fun _ => rfl) rfl rfl hl.1 rfl (Nat.le_of_ble_eq_true rfl) dX5_now_119 ⟨Nat.zero_le _, Nat.zero_le _⟩ (fun z_13 _ H locs hw_14 hP hD hS => ?_)
    have E := x_nm_eq E hw_14
    refine lv_aload_n hx hb dX5_now_122 rfl (lv_at hl 0 rfl) ?_
    refine va_get (ci := 5) (v := .ref tA_is) (C := RX5) (T := TX5) (N := 25) hx hb hts inlX5 hown hK.1 hP 0 rfl rfl 5 (by decide) (hts _ kw_94) (fun _ h9 => h9) rfl dX5_now_123 ?_
    refine lv_iconst (v := 0) hx hb dX5_now_126 (by decide) ?_
    refine x_ialdN hx hb hK hP 1 0 rfl (by omega) (by decide) dX5_now_127 ?_
    refine lv_imul hx hb dX5_now_128 ?_
    refine lv_iconst (v := 2) hx hb dX5_now_129 (by decide) ?_
    refine lv_idiv hx hb dX5_now_130 (by decide) ?_
    exact RET ((z_13 * (t_is 0)) / 2) () H locs _ _ (E.symm.trans hO) rfl hP hD hS dX5_now_131
  have E := x_neg E c_12
  by_cases c_16 : a1 = 9
  · have E := x_pos E c_16
    refine lv_tableIn (off := 131) (tgt := 132) hx hb dX5_now_1 (by rw [c_16]; decide) (by rw [c_16]; decide) (by rw [c_16]; decide) (by decide) ?_
    refine lv_aload_n hx hb dX5_now_132 rfl (lv_at hl 0 rfl) ?_
    refine va_get (ci := 5) (v := .ref tA_row) (C := RX5) (T := TX5) (N := 25) hx hb hts inlX5 hown hK.1 hP 0 rfl rfl 9 (by decide) (hts _ kw_97) (fun _ h9 => h9) rfl dX5_now_133 ?_
    refine lv_bipush (v := 15) hx hb dX5_now_136 (by decide) ?_
    refine x_ialdN hx hb hK hP 2 15 rfl (by omega) (by decide) dX5_now_138 ?_
    exact RET (t_row 15) () H locs _ _ (E.symm.trans hO) rfl hP hD hS dX5_now_139
  have E := x_neg E c_16
  refine lv_tableOut (tgt := 140) hx hb dX5_now_1 (x_out 10 (by decide) (fun k hk => by rcases (show k = 0 ∨ k = 1 ∨ k = 2 ∨ k = 3 ∨ k = 4 ∨ k = 5 ∨ k = 6 ∨ k = 7 ∨ k = 8 ∨ k = 9 by omega) with rfl | rfl | rfl | rfl | rfl | rfl | rfl | rfl | rfl | rfl <;> assumption) (by decide)) (by decide) ?_
  refine lv_iconst (v := (-1)) hx hb dX5_now_140 (by decide) ?_
  exact RET (-1) () H locs _ _ (E.symm.trans hO) rfl hP hD hS dX5_now_141
