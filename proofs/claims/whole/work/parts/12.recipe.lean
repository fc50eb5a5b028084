abbrev rX1_begin : Room := { frames := 0, cells := 0, slots := 0, locals := 0 }
theorem vX1_begin : yX1_begin.cls = RX1 ∧ yX1_begin.cls ≠ "java/lang/invoke/MethodHandle" ∧ yX1_begin.cls ≠ "java/lang/invoke/VarHandle" ∧ (parseMethodDescriptor yX1_begin.desc).map (fun d => d.parameters.length) = some 1 := by decide +kernel
abbrev wX1_begin : List Cond := Cond.code yX1_begin cX1_begin 3 none :: wsL_law
def F_X1_begin_L7 : Nat → Nat → (Nat → Int32) → (Nat → Int32) → (Nat → Int32) × (Nat → Int32)
  | 0, k2_4, t_degrees_5, t_brown_6 => (t_degrees_5, t_brown_6)
  | n_7 + 1, k2_4, t_degrees_5, t_brown_6 => if 4 ≤ k2_4 then (t_degrees_5, t_brown_6) else x_nm (upd t_degrees_5 k2_4 20) fun t_degrees_9 => x_nm (upd t_brown_6 k2_4 0) fun t_brown_10 => F_X1_begin_L7 n_7 (k2_4 + 1) t_degrees_9 t_brown_10
def F_X1_begin (t_degrees : Nat → Int32) (t_brown : Nat → Int32) (a1 : Int32) : Int32 × Int32 × Int32 × Int32 × Int32 × Int32 × Int32 × Int32 × Int32 × (Nat → Int32) × (Nat → Int32) :=
  x_nm (α := (Nat → Int32) × (Nat → Int32)) (F_X1_begin_L7 (4 + 1) 0 t_degrees t_brown) fun u_3 => (0, 20, a1, 0, 0, 0, 0, (-9), 0, u_3.1, u_3.2)
set_option maxHeartbeats 4000000 in
set_option maxRecDepth 100000 in
theorem m_X1_begin (l : Launch) (g : x_G) (tA tA_degrees tA_brown : Nat) (t_down : Int32) (t_core : Int32) (t_water : Int32) (t_pricked : Int32) (t_thinSpots : Int32) (t_seconds : Int32) (t_gone : Int32) (t_splitAt : Int32) (t_steam : Int32) (t_degrees : Nat → Int32) (t_brown : Nat → Int32) (a1 : Int32) : x_MetV l yX1_begin wX1_begin rX1_begin g [.ref tA, .int a1] [(tA, .inr (1, [.int t_down, .ref tA_degrees, .ref tA_brown, .int t_core, .int t_water, .int t_pricked, .int t_thinSpots, .int t_seconds, .int t_gone, .int t_splitAt, .int t_steam])), (tA_degrees, .inl (g.2.1 0, 4, .inl t_degrees)), (tA_brown, .inl (g.2.1 0, 4, .inl t_brown))] (fun u : Int32 × Int32 × Int32 × Int32 × Int32 × Int32 × Int32 × Int32 × Int32 × (Nat → Int32) × (Nat → Int32) => u = F_X1_begin t_degrees t_brown a1) (fun u => [(tA, .inr (1, [.int u.1, .ref tA_degrees, .ref tA_brown, .int u.2.1, .int u.2.2.1, .int u.2.2.2.1, .int u.2.2.2.2.1, .int u.2.2.2.2.2.1, .int u.2.2.2.2.2.2.1, .int u.2.2.2.2.2.2.2.1, .int u.2.2.2.2.2.2.2.2.1])), (tA_degrees, .inl (g.2.1 0, 4, .inl u.2.2.2.2.2.2.2.2.2.1)), (tA_brown, .inl (g.2.1 0, 4, .inl u.2.2.2.2.2.2.2.2.2.2))]) := by
  refine x_startV (cc := cX1_begin) (maxL := 3) (by decide) rfl (Nat.le_of_ble_eq_true rfl) ?_
  intro p e s m args below meth c Q A ls H locs hx hb hml hown hts hK hX hP hD hS hA hl RET
  have hown : s.vm.findClass RX1 = some m.cls := hown
  have hl : lv_has ls 3 [(0, .ref tA), (1, .int a1)] := hl
  obtain ⟨o_0, hO⟩ : ∃ z, z = F_X1_begin t_degrees t_brown a1 := ⟨_, rfl⟩
  have E := hO
  rw [F_X1_begin.eq_1] at E
  refine lv_aload_n hx hb dX1_begin_0 rfl (lv_at hl 0 rfl) ?_
  refine lv_iconst (v := 0) hx hb dX1_begin_1 (by decide) ?_
  refine va_put (ci := 1) (v := .int 0) (ty := .int) (C := RX1) (T := TX1) (N := 11) hx hb hts inlX1 tyX1 tyX1_ok nmX1 hown hK.1 hP hD hS 0 rfl rfl 0 (by decide) (hts _ kw_79) (fun _ h9 => h9) rfl (tyX1_ok 0 (by decide)) rfl rfl (Nat.le_of_ble_eq_true rfl) dX1_begin_2 (fun H locs hP hD hS => ?_)
  have hP : va_P g.1 vwCl [(tA, .inr (1, [.int 0, .ref tA_degrees, .ref tA_brown, .int t_core, .int t_water, .int t_pricked, .int t_thinSpots, .int t_seconds, .int t_gone, .int t_splitAt, .int t_steam])), (tA_degrees, .inl (g.2.1 0, 4, .inl t_degrees)), (tA_brown, .inl (g.2.1 0, 4, .inl t_brown))] H := hP
  have hD : va_D A [(tA, .inr (1, [.int 0, .ref tA_degrees, .ref tA_brown, .int t_core, .int t_water, .int t_pricked, .int t_thinSpots, .int t_seconds, .int t_gone, .int t_splitAt, .int t_steam])), (tA_degrees, .inl (g.2.1 0, 4, .inl t_degrees)), (tA_brown, .inl (g.2.1 0, 4, .inl t_brown))] := hD
  refine lv_iconst (v := 0) hx hb dX1_begin_5 (by decide) ?_
  refine lv_istore_n (lv' := [(2, .int 0), (0, .ref tA), (1, .int a1)]) hx hb dX1_begin_6 rfl hl (by decide) rfl (fun ls hl => ?_)
  obtain ⟨o_3, E_3, E⟩ := x_nm_ex E
  have J_3 : ∀ (t_degrees_1 : Nat → Int32) (t_brown_2 : Nat → Int32), o_3 = (t_degrees_1, t_brown_2) → ∀ (H : Heap) (locs : List Loc) (ls : Array Slot), va_P g.1 vwCl [(tA, .inr (1, [.int 0, .ref tA_degrees, .ref tA_brown, .int t_core, .int t_water, .int t_pricked, .int t_thinSpots, .int t_seconds, .int t_gone, .int t_splitAt, .int t_steam])), (tA_degrees, .inl (g.2.1 0, 4, .inl t_degrees_1)), (tA_brown, .inl (g.2.1 0, 4, .inl t_brown_2))] H → va_D A [(tA, .inr (1, [.int 0, .ref tA_degrees, .ref tA_brown, .int t_core, .int t_water, .int t_pricked, .int t_thinSpots, .int t_seconds, .int t_gone, .int t_splitAt, .int t_steam])), (tA_degrees, .inl (g.2.1 0, 4, .inl t_degrees_1)), (tA_brown, .inl (g.2.1 0, 4, .inl t_brown_2))] → va_S A s.heap H locs → lv_has ls 3 [(0, .ref tA), (1, .int a1)] → W p l e rX1_begin s m args below meth c H locs 0 0 Q (F0 m 33 ls []) := by
    intro t_degrees_1 t_brown_2 hE  H locs ls hP hD hS hl
    try rw [hE] at E
    refine lv_aload_n hx hb dX1_begin_33 rfl (lv_at hl 0 rfl) ?_
    refine lv_bipush (v := 20) hx hb dX1_begin_34 (by decide) ?_
    refine va_put (ci := 1) (v := .int 20) (ty := .int) (C := RX1) (T := TX1) (N := 11) hx hb hts inlX1 tyX1 tyX1_ok nmX1 hown hK.1 hP hD hS 0 rfl rfl 3 (by decide) (hts _ kw_80) (fun _ h9 => h9) rfl (tyX1_ok 3 (by decide)) rfl rfl (Nat.le_of_ble_eq_true rfl) dX1_begin_36 (fun H locs hP hD hS => ?_)
    have hP : va_P g.1 vwCl [(tA, .inr (1, [.int 0, .ref tA_degrees, .ref tA_brown, .int 20, .int t_water, .int t_pricked, .int t_thinSpots, .int t_seconds, .int t_gone, .int t_splitAt, .int t_steam])), (tA_degrees, .inl (g.2.1 0, 4, .inl t_degrees_1)), (tA_brown, .inl (g.2.1 0, 4, .inl t_brown_2))] H := hP
    have hD : va_D A [(tA, .inr (1, [.int 0, .ref tA_degrees, .ref tA_brown, .int 20, .int t_water, .int t_pricked, .int t_thinSpots, .int t_seconds, .int t_gone, .int t_splitAt, .int t_steam])), (tA_degrees, .inl (g.2.1 0, 4, .inl t_degrees_1)), (tA_brown, .inl (g.2.1 0, 4, .inl t_brown_2))] := hD
    refine lv_aload_n hx hb dX1_begin_39 rfl (lv_at hl 0 rfl) ?_
    refine lv_iload_n hx hb dX1_begin_40 rfl (lv_at hl 1 rfl) ?_
    refine va_put (ci := 1) (v := .int a1) (ty := .int) (C := RX1) (T := TX1) (N := 11) hx hb hts inlX1 tyX1 tyX1_ok nmX1 hown hK.1 hP hD hS 0 rfl rfl 4 (by decide) (hts _ kw_81) (fun _ h9 => h9) rfl (tyX1_ok 4 (by decide)) rfl rfl (Nat.le_of_ble_eq_true rfl) dX1_begin_41 (fun H locs hP hD hS => ?_)
    have hP : va_P g.1 vwCl [(tA, .inr (1, [.int 0, .ref tA_degrees, .ref tA_brown, .int 20, .int a1, .int t_pricked, .int t_thinSpots, .int t_seconds, .int t_gone, .int t_splitAt, .int t_steam])), (tA_degrees, .inl (g.2.1 0, 4, .inl t_degrees_1)), (tA_brown, .inl (g.2.1 0, 4, .inl t_brown_2))] H := hP
    have hD : va_D A [(tA, .inr (1, [.int 0, .ref tA_degrees, .ref tA_brown, .int 20, .int a1, .int t_pricked, .int t_thinSpots, .int t_seconds, .int t_gone, .int t_splitAt, .int t_steam])), (tA_degrees, .inl (g.2.1 0, 4, .inl t_degrees_1)), (tA_brown, .inl (g.2.1 0, 4, .inl t_brown_2))] := hD
    refine lv_aload_n hx hb dX1_begin_44 rfl (lv_at hl 0 rfl) ?_
    refine lv_iconst (v := 0) hx hb dX1_begin_45 (by decide) ?_
    refine va_put (ci := 1) (v := .int 0) (ty := .int) (C := RX1) (T := TX1) (N := 11) hx hb hts inlX1 tyX1 tyX1_ok nmX1 hown hK.1 hP hD hS 0 rfl rfl 5 (by decide) (hts _ kw_82) (fun _ h9 => h9) rfl (tyX1_ok 5 (by decide)) rfl rfl (Nat.le_of_ble_eq_true rfl) dX1_begin_46 (fun H locs hP hD hS => ?_)
    have hP : va_P g.1 vwCl [(tA, .inr (1, [.int 0, .ref tA_degrees, .ref tA_brown, .int 20, .int a1, .int 0, .int t_thinSpots, .int t_seconds, .int t_gone, .int t_splitAt, .int t_steam])), (tA_degrees, .inl (g.2.1 0, 4, .inl t_degrees_1)), (tA_brown, .inl (g.2.1 0, 4, .inl t_brown_2))] H := hP
    have hD : va_D A [(tA, .inr (1, [.int 0, .ref tA_degrees, .ref tA_brown, .int 20, .int a1, .int 0, .int t_thinSpots, .int t_seconds, .int t_gone, .int t_splitAt, .int t_steam])), (tA_degrees, .inl (g.2.1 0, 4, .inl t_degrees_1)), (tA_brown, .inl (g.2.1 0, 4, .inl t_brown_2))] := hD
    refine lv_aload_n hx hb dX1_begin_49 rfl (lv_at hl 0 rfl) ?_
    refine lv_iconst (v := 0) hx hb dX1_begin_50 (by decide) ?_
    refine va_put (ci := 1) (v := .int 0) (ty := .int) (C := RX1) (T := TX1) (N := 11) hx hb hts inlX1 tyX1 tyX1_ok nmX1 hown hK.1 hP hD hS 0 rfl rfl 6 (by decide) (hts _ kw_83) (fun _ h9 => h9) rfl (tyX1_ok 6 (by decide)) rfl rfl (Nat.le_of_ble_eq_true rfl) dX1_begin_51 (fun H locs hP hD hS => ?_)
    have hP : va_P g.1 vwCl [(tA, .inr (1, [.int 0, .ref tA_degrees, .ref tA_brown, .int 20, .int a1, .int 0, .int 0, .int t_seconds, .int t_gone, .int t_splitAt, .int t_steam])), (tA_degrees, .inl (g.2.1 0, 4, .inl t_degrees_1)), (tA_brown, .inl (g.2.1 0, 4, .inl t_brown_2))] H := hP
    have hD : va_D A [(tA, .inr (1, [.int 0, .ref tA_degrees, .ref tA_brown, .int 20, .int a1, .int 0, .int 0, .int t_seconds, .int t_gone, .int t_splitAt, .int t_steam])), (tA_degrees, .inl (g.2.1 0, 4, .inl t_degrees_1)), (tA_brown, .inl (g.2.1 0, 4, .inl t_brown_2))] := hD
    refine lv_aload_n hx hb dX1_begin_54 rfl (lv_at hl 0 rfl) ?_
    refine lv_iconst (v := 0) hx hb dX1_begin_55 (by decide) ?_
    refine va_put (ci := 1) (v := .int 0) (ty := .int) (C := RX1) (T := TX1) (N := 11) hx hb hts inlX1 tyX1 tyX1_ok nmX1 hown hK.1 hP hD hS 0 rfl rfl 7 (by decide) (hts _ kw_84) (fun _ h9 => h9) rfl (tyX1_ok 7 (by decide)) rfl rfl (Nat.le_of_ble_eq_true rfl) dX1_begin_56 (fun H locs hP hD hS => ?_)
    have hP : va_P g.1 vwCl [(tA, .inr (1, [.int 0, .ref tA_degrees, .ref tA_brown, .int 20, .int a1, .int 0, .int 0, .int 0, .int t_gone, .int t_splitAt, .int t_steam])), (tA_degrees, .inl (g.2.1 0, 4, .inl t_degrees_1)), (tA_brown, .inl (g.2.1 0, 4, .inl t_brown_2))] H := hP
    have hD : va_D A [(tA, .inr (1, [.int 0, .ref tA_degrees, .ref tA_brown, .int 20, .int a1, .int 0, .int 0, .int 0, .int t_gone, .int t_splitAt, .int t_steam])), (tA_degrees, .inl (g.2.1 0, 4, .inl t_degrees_1)), (tA_brown, .inl (g.2.1 0, 4, .inl t_brown_2))] := hD
    refine lv_aload_n hx hb dX1_begin_59 rfl (lv_at hl 0 rfl) ?_
    refine lv_iconst (v := 0) hx hb dX1_begin_60 (by decide) ?_
    refine va_put (ci := 1) (v := .int 0) (ty := .int) (C := RX1) (T := TX1) (N := 11) hx hb hts inlX1 tyX1 tyX1_ok nmX1 hown hK.1 hP hD hS 0 rfl rfl 8 (by decide) (hts _ kw_85) (fun _ h9 => h9) rfl (tyX1_ok 8 (by decide)) rfl rfl (Nat.le_of_ble_eq_true rfl) dX1_begin_61 (fun H locs hP hD hS => ?_)
    have hP : va_P g.1 vwCl [(tA, .inr (1, [.int 0, .ref tA_degrees, .ref tA_brown, .int 20, .int a1, .int 0, .int 0, .int 0, .int 0, .int t_splitAt, .int t_steam])), (tA_degrees, .inl (g.2.1 0, 4, .inl t_degrees_1)), (tA_brown, .inl (g.2.1 0, 4, .inl t_brown_2))] H := hP
    have hD : va_D A [(tA, .inr (1, [.int 0, .ref tA_degrees, .ref tA_brown, .int 20, .int a1, .int 0, .int 0, .int 0, .int 0, .int t_splitAt, .int t_steam])), (tA_degrees, .inl (g.2.1 0, 4, .inl t_degrees_1)), (tA_brown, .inl (g.2.1 0, 4, .inl t_brown_2))] := hD
    refine lv_aload_n hx hb dX1_begin_64 rfl (lv_at hl 0 rfl) ?_
    refine lv_bipush (v := (-9)) hx hb dX1_begin_65 (by decide) ?_
    refine va_put (ci := 1) (v := .int (-9)) (ty := .int) (C := RX1) (T := TX1) (N := 11) hx hb hts inlX1 tyX1 tyX1_ok nmX1 hown hK.1 hP hD hS 0 rfl rfl 9 (by decide) (hts _ kw_86) (fun _ h9 => h9) rfl (tyX1_ok 9 (by decide)) rfl rfl (Nat.le_of_ble_eq_true rfl) dX1_begin_67 (fun H locs hP hD hS => ?_)
    have hP : va_P g.1 vwCl [(tA, .inr (1, [.int 0, .ref tA_degrees, .ref tA_brown, .int 20, .int a1, .int 0, .int 0, .int 0, .int 0, .int (-9), .int t_steam])), (tA_degrees, .inl (g.2.1 0, 4, .inl t_degrees_1)), (tA_brown, .inl (g.2.1 0, 4, .inl t_brown_2))] H := hP
    have hD : va_D A [(tA, .inr (1, [.int 0, .ref tA_degrees, .ref tA_brown, .int 20, .int a1, .int 0, .int 0, .int 0, .int 0, .int (-9), .int t_steam])), (tA_degrees, .inl (g.2.1 0, 4, .inl t_degrees_1)), (tA_brown, .inl (g.2.1 0, 4, .inl t_brown_2))] := hD
    refine lv_aload_n hx hb dX1_begin_70 rfl (lv_at hl 0 rfl) ?_
    refine lv_iconst (v := 0) hx hb dX1_begin_71 (by decide) ?_
    refine va_put (ci := 1) (v := .int 0) (ty := .int) (C := RX1) (T := TX1) (N := 11) hx hb hts inlX1 tyX1 tyX1_ok nmX1 hown hK.1 hP hD hS 0 rfl rfl 10 (by decide) (hts _ kw_87) (fun _ h9 => h9) rfl (tyX1_ok 10 (by decide)) rfl rfl (Nat.le_of_ble_eq_true rfl) dX1_begin_72 (fun H locs hP hD hS => ?_)
    have hP : va_P g.1 vwCl [(tA, .inr (1, [.int 0, .ref tA_degrees, .ref tA_brown, .int 20, .int a1, .int 0, .int 0, .int 0, .int 0, .int (-9), .int 0])), (tA_degrees, .inl (g.2.1 0, 4, .inl t_degrees_1)), (tA_brown, .inl (g.2.1 0, 4, .inl t_brown_2))] H := hP
    have hD : va_D A [(tA, .inr (1, [.int 0, .ref tA_degrees, .ref tA_brown, .int 20, .int a1, .int 0, .int 0, .int 0, .int 0, .int (-9), .int 0])), (tA_degrees, .inl (g.2.1 0, 4, .inl t_degrees_1)), (tA_brown, .inl (g.2.1 0, 4, .inl t_brown_2))] := hD
    exact RET (0, 20, a1, 0, 0, 0, 0, (-9), 0, t_degrees_1, t_brown_2) H locs _ _ (E.symm.trans hO) hP hD hS dX1_begin_75
  have E := E_3
  have L_7 : ∀ (n_7 : Nat) (k2_4 : Nat) (t_degrees_5 : Nat → Int32) (t_brown_6 : Nat → Int32), (k2_4 ≤ 4) → ((4 - k2_4) < n_7) → o_3 = F_X1_begin_L7 n_7 k2_4 t_degrees_5 t_brown_6 → ∀ (H : Heap) (locs : List Loc) (ls : Array Slot), va_P g.1 vwCl [(tA, .inr (1, [.int 0, .ref tA_degrees, .ref tA_brown, .int t_core, .int t_water, .int t_pricked, .int t_thinSpots, .int t_seconds, .int t_gone, .int t_splitAt, .int t_steam])), (tA_degrees, .inl (g.2.1 0, 4, .inl t_degrees_5)), (tA_brown, .inl (g.2.1 0, 4, .inl t_brown_6))] H → va_D A [(tA, .inr (1, [.int 0, .ref tA_degrees, .ref tA_brown, .int t_core, .int t_water, .int t_pricked, .int t_thinSpots, .int t_seconds, .int t_gone, .int t_splitAt, .int t_steam])), (tA_degrees, .inl (g.2.1 0, 4, .inl t_degrees_5)), (tA_brown, .inl (g.2.1 0, 4, .inl t_brown_6))] → va_S A s.heap H locs → lv_has ls 3 [(0, .ref tA), (1, .int a1), (2, .int (nI k2_4))] → W p l e rX1_begin s m args below meth c H locs 0 0 Q (F0 m 7 ls []) := by
    intro n_7
    induction n_7 with
    | zero => intro k2_4 t_degrees_5 t_brown_6 i_7_0 i_7_1; exact absurd i_7_1 (by omega)
    | succ n_7 ih_7 =>
      intro k2_4 t_degrees_5 t_brown_6 i_7_0 i_7_1 E H locs ls hP hD hS hl
      rw [F_X1_begin_L7.eq_2] at E
      refine lv_iload_n hx hb dX1_begin_7 rfl (lv_at hl 2 rfl) ?_
      refine lv_iconst (v := 4) hx hb dX1_begin_8 (by decide) ?_
      refine x_icmp_ge (a := k2_4) (b := 4) (tgt := 33) hx hb (by omega) (by omega) dX1_begin_9 (by decide) (fun c_8 => ?_) (fun c_8 => ?_)
      · have E := x_pos E c_8
        exact J_3 t_degrees_5 t_brown_6 E  H locs ls hP hD hS (lv_sub hl [0, 1] rfl)
      · have E := x_neg E c_8
        refine lv_aload_n hx hb dX1_begin_12 rfl (lv_at hl 0 rfl) ?_
        refine va_get (ci := 1) (v := .ref tA_degrees) (C := RX1) (T := TX1) (N := 11) hx hb hts inlX1 hown hK.1 hP 0 rfl rfl 1 (by decide) (hts _ kw_68) (fun _ h9 => h9) rfl dX1_begin_13 ?_
        refine lv_iload_n hx hb dX1_begin_16 rfl (lv_at hl 2 rfl) ?_
        refine lv_bipush (v := 20) hx hb dX1_begin_17 (by decide) ?_
        refine x_iastN hx hb hK hP hD hS 1 k2_4 rfl (by omega) (by decide) dX1_begin_19 (fun t_degrees_9 H locs hf hP hD hS => ?_)
        have hP : va_P g.1 vwCl [(tA, .inr (1, [.int 0, .ref tA_degrees, .ref tA_brown, .int t_core, .int t_water, .int t_pricked, .int t_thinSpots, .int t_seconds, .int t_gone, .int t_splitAt, .int t_steam])), (tA_degrees, .inl (g.2.1 0, 4, .inl t_degrees_9)), (tA_brown, .inl (g.2.1 0, 4, .inl t_brown_6))] H := hP
        have hD : va_D A [(tA, .inr (1, [.int 0, .ref tA_degrees, .ref tA_brown, .int t_core, .int t_water, .int t_pricked, .int t_thinSpots, .int t_seconds, .int t_gone, .int t_splitAt, .int t_steam])), (tA_degrees, .inl (g.2.1 0, 4, .inl t_degrees_9)), (tA_brown, .inl (g.2.1 0, 4, .inl t_brown_6))] := hD
        have E := x_nm_eq E hf
        refine lv_aload_n hx hb dX1_begin_20 rfl (lv_at hl 0 rfl) ?_
        refine va_get (ci := 1) (v := .ref tA_brown) (C := RX1) (T := TX1) (N := 11) hx hb hts inlX1 hown hK.1 hP 0 rfl rfl 2 (by decide) (hts _ kw_69) (fun _ h9 => h9) rfl dX1_begin_21 ?_
        refine lv_iload_n hx hb dX1_begin_24 rfl (lv_at hl 2 rfl) ?_
        refine lv_iconst (v := 0) hx hb dX1_begin_25 (by decide) ?_
        refine x_iastN hx hb hK hP hD hS 2 k2_4 rfl (by omega) (by decide) dX1_begin_26 (fun t_brown_10 H locs hf hP hD hS => ?_)
        have hP : va_P g.1 vwCl [(tA, .inr (1, [.int 0, .ref tA_degrees, .ref tA_brown, .int t_core, .int t_water, .int t_pricked, .int t_thinSpots, .int t_seconds, .int t_gone, .int t_splitAt, .int t_steam])), (tA_degrees, .inl (g.2.1 0, 4, .inl t_degrees_9)), (tA_brown, .inl (g.2.1 0, 4, .inl t_brown_10))] H := hP
        have hD : va_D A [(tA, .inr (1, [.int 0, .ref tA_degrees, .ref tA_brown, .int t_core, .int t_water, .int t_pricked, .int t_thinSpots, .int t_seconds, .int t_gone, .int t_splitAt, .int t_steam])), (tA_degrees, .inl (g.2.1 0, 4, .inl t_degrees_9)), (tA_brown, .inl (g.2.1 0, 4, .inl t_brown_10))] := hD
        have E := x_nm_eq E hf
        refine lv_iinc (v := nI (k2_4 + 1)) (lv' := [(2, .int (nI (k2_4 + 1))), (0, .ref tA), (1, .int a1)]) hx hb dX1_begin_27 hl (k := 2) rfl (nI_1 k2_4) (by decide) rfl (fun ls hl => ?_)
        refine lv_goto (tgt := 7) hx hb dX1_begin_30 (by decide) ?_
        exact ih_7 (k2_4 + 1) t_degrees_9 t_brown_10 (by first | omega | assumption | exact Eq.trans (by assumption) (by assumption)) (by omega) E H locs ls hP hD hS (lv_sub hl [1, 2, 0] rfl)
  exact L_7 (4 + 1) 0 t_degrees t_brown (by first | omega | assumption | rfl) (by omega) E H locs ls hP hD hS (lv_sub hl [1, 2, 0] rfl)
abbrev rX1_take : Room := { frames := 0, cells := 0, slots := 0, locals := 0 }
theorem vX1_take : yX1_take.cls = RX1 ∧ yX1_take.cls ≠ "java/lang/invoke/MethodHandle" ∧ yX1_take.cls ≠ "java/lang/invoke/VarHandle" ∧ (parseMethodDescriptor yX1_take.desc).map (fun d => d.parameters.length) = some 1 := by decide +kernel
abbrev wX1_take : List Cond := Cond.code yX1_take cX1_take 3 none :: wsL_law
def F_X1_take_L10 (o_degrees : Nat → Int32) (o_brown : Nat → Int32) : Nat → Nat → (Nat → Int32) → (Nat → Int32) → (Nat → Int32) × (Nat → Int32)
  | 0, k2_4, t_degrees_5, t_brown_6 => (t_degrees_5, t_brown_6)
  | n_7 + 1, k2_4, t_degrees_5, t_brown_6 => if 4 ≤ k2_4 then (t_degrees_5, t_brown_6) else x_nm (upd t_degrees_5 k2_4 (o_degrees k2_4)) fun t_degrees_9 => x_nm (upd t_brown_6 k2_4 (o_brown k2_4)) fun t_brown_10 => F_X1_take_L10 o_degrees o_brown n_7 (k2_4 + 1) t_degrees_9 t_brown_10
def F_X1_take (t_degrees : Nat → Int32) (t_brown : Nat → Int32) (o_down : Int32) (o_degrees : Nat → Int32) (o_brown : Nat → Int32) (o_core : Int32) (o_water : Int32) (o_pricked : Int32) (o_thinSpots : Int32) (o_seconds : Int32) (o_gone : Int32) (o_splitAt : Int32) (o_steam : Int32) : Int32 × Int32 × Int32 × Int32 × Int32 × Int32 × Int32 × Int32 × Int32 × (Nat → Int32) × (Nat → Int32) :=
  x_nm (α := (Nat → Int32) × (Nat → Int32)) (F_X1_take_L10 o_degrees o_brown (4 + 1) 0 t_degrees t_brown) fun u_3 => (o_down, o_core, o_water, o_pricked, o_thinSpots, o_seconds, o_gone, o_splitAt, o_steam, u_3.1, u_3.2)
set_option maxHeartbeats 4000000 in
set_option maxRecDepth 100000 in
theorem m_X1_take (l : Launch) (g : x_G) (tA tA_degrees tA_brown oA oA_degrees oA_brown : Nat) (t_down : Int32) (t_core : Int32) (t_water : Int32) (t_pricked : Int32) (t_thinSpots : Int32) (t_seconds : Int32) (t_gone : Int32) (t_splitAt : Int32) (t_steam : Int32) (t_degrees : Nat → Int32) (t_brown : Nat → Int32) (o_down : Int32) (o_core : Int32) (o_water : Int32) (o_pricked : Int32) (o_thinSpots : Int32) (o_seconds : Int32) (o_gone : Int32) (o_splitAt : Int32) (o_steam : Int32) (o_degrees : Nat → Int32) (o_brown : Nat → Int32) : x_MetV l yX1_take wX1_take rX1_take g [.ref tA, .ref oA] [(tA, .inr (1, [.int t_down, .ref tA_degrees, .ref tA_brown, .int t_core, .int t_water, .int t_pricked, .int t_thinSpots, .int t_seconds, .int t_gone, .int t_splitAt, .int t_steam])), (tA_degrees, .inl (g.2.1 0, 4, .inl t_degrees)), (tA_brown, .inl (g.2.1 0, 4, .inl t_brown)), (oA, .inr (1, [.int o_down, .ref oA_degrees, .ref oA_brown, .int o_core, .int o_water, .int o_pricked, .int o_thinSpots, .int o_seconds, .int o_gone, .int o_splitAt, .int o_steam])), (oA_degrees, .inl (g.2.1 0, 4, .inl o_degrees)), (oA_brown, .inl (g.2.1 0, 4, .inl o_brown))] (fun u : Int32 × Int32 × Int32 × Int32 × Int32 × Int32 × Int32 × Int32 × Int32 × (Nat → Int32) × (Nat → Int32) => u = F_X1_take t_degrees t_brown o_down o_degrees o_brown o_core o_water o_pricked o_thinSpots o_seconds o_gone o_splitAt o_steam) (fun u => [(tA, .inr (1, [.int u.1, .ref tA_degrees, .ref tA_brown, .int u.2.1, .int u.2.2.1, .int u.2.2.2.1, .int u.2.2.2.2.1, .int u.2.2.2.2.2.1, .int u.2.2.2.2.2.2.1, .int u.2.2.2.2.2.2.2.1, .int u.2.2.2.2.2.2.2.2.1])), (tA_degrees, .inl (g.2.1 0, 4, .inl u.2.2.2.2.2.2.2.2.2.1)), (tA_brown, .inl (g.2.1 0, 4, .inl u.2.2.2.2.2.2.2.2.2.2)), (oA, .inr (1, [.int o_down, .ref oA_degrees, .ref oA_brown, .int o_core, .int o_water, .int o_pricked, .int o_thinSpots, .int o_seconds, .int o_gone, .int o_splitAt, .int o_steam])), (oA_degrees, .inl (g.2.1 0, 4, .inl o_degrees)), (oA_brown, .inl (g.2.1 0, 4, .inl o_brown))]) := by
  refine x_startV (cc := cX1_take) (maxL := 3) (by decide) rfl (Nat.le_of_ble_eq_true rfl) ?_
  intro p e s m args below meth c Q A ls H locs hx hb hml hown hts hK hX hP hD hS hA hl RET
  have hown : s.vm.findClass RX1 = some m.cls := hown
  have hl : lv_has ls 3 [(0, .ref tA), (1, .ref oA)] := hl
  obtain ⟨o_0, hO⟩ : ∃ z, z = F_X1_take t_degrees t_brown o_down o_degrees o_brown o_core o_water o_pricked o_thinSpots o_seconds o_gone o_splitAt o_steam := ⟨_, rfl⟩
  have E := hO
  rw [F_X1_take.eq_1] at E
  refine lv_aload_n hx hb dX1_take_0 rfl (lv_at hl 0 rfl) ?_
  refine lv_aload_n hx hb dX1_take_1 rfl (lv_at hl 1 rfl) ?_
  refine va_get (ci := 1) (v := .int o_down) (C := RX1) (T := TX1) (N := 11) hx hb hts inlX1 hown hK.1 hP 3 rfl rfl 0 (by decide) (hts _ kw_79) (fun _ h9 => h9) rfl dX1_take_2 ?_
  refine va_put (ci := 1) (v := .int o_down) (ty := .int) (C := RX1) (T := TX1) (N := 11) hx hb hts inlX1 tyX1 tyX1_ok nmX1 hown hK.1 hP hD hS 0 rfl rfl 0 (by decide) (hts _ kw_79) (fun _ h9 => h9) rfl (tyX1_ok 0 (by decide)) rfl rfl (Nat.le_of_ble_eq_true rfl) dX1_take_5 (fun H locs hP hD hS => ?_)
  have hP : va_P g.1 vwCl [(tA, .inr (1, [.int o_down, .ref tA_degrees, .ref tA_brown, .int t_core, .int t_water, .int t_pricked, .int t_thinSpots, .int t_seconds, .int t_gone, .int t_splitAt, .int t_steam])), (tA_degrees, .inl (g.2.1 0, 4, .inl t_degrees)), (tA_brown, .inl (g.2.1 0, 4, .inl t_brown)), (oA, .inr (1, [.int o_down, .ref oA_degrees, .ref oA_brown, .int o_core, .int o_water, .int o_pricked, .int o_thinSpots, .int o_seconds, .int o_gone, .int o_splitAt, .int o_steam])), (oA_degrees, .inl (g.2.1 0, 4, .inl o_degrees)), (oA_brown, .inl (g.2.1 0, 4, .inl o_brown))] H := hP
  have hD : va_D A [(tA, .inr (1, [.int o_down, .ref tA_degrees, .ref tA_brown, .int t_core, .int t_water, .int t_pricked, .int t_thinSpots, .int t_seconds, .int t_gone, .int t_splitAt, .int t_steam])), (tA_degrees, .inl (g.2.1 0, 4, .inl t_degrees)), (tA_brown, .inl (g.2.1 0, 4, .inl t_brown)), (oA, .inr (1, [.int o_down, .ref oA_degrees, .ref oA_brown, .int o_core, .int o_water, .int o_pricked, .int o_thinSpots, .int o_seconds, .int o_gone, .int o_splitAt, .int o_steam])), (oA_degrees, .inl (g.2.1 0, 4, .inl o_degrees)), (oA_brown, .inl (g.2.1 0, 4, .inl o_brown))] := hD
  refine lv_iconst (v := 0) hx hb dX1_take_8 (by decide) ?_
  refine lv_istore_n (lv' := [(2, .int 0), (0, .ref tA), (1, .ref oA)]) hx hb dX1_take_9 rfl hl (by decide) rfl (fun ls hl => ?_)
  obtain ⟨o_3, E_3, E⟩ := x_nm_ex E
  have J_3 : ∀ (t_degrees_1 : Nat → Int32) (t_brown_2 : Nat → Int32), o_3 = (t_degrees_1, t_brown_2) → ∀ (H : Heap) (locs : List Loc) (ls : Array Slot), va_P g.1 vwCl [(tA, .inr (1, [.int o_down, .ref tA_degrees, .ref tA_brown, .int t_core, .int t_water, .int t_pricked, .int t_thinSpots, .int t_seconds, .int t_gone, .int t_splitAt, .int t_steam])), (tA_degrees, .inl (g.2.1 0, 4, .inl t_degrees_1)), (tA_brown, .inl (g.2.1 0, 4, .inl t_brown_2)), (oA, .inr (1, [.int o_down, .ref oA_degrees, .ref oA_brown, .int o_core, .int o_water, .int o_pricked, .int o_thinSpots, .int o_seconds, .int o_gone, .int o_splitAt, .int o_steam])), (oA_degrees, .inl (g.2.1 0, 4, .inl o_degrees)), (oA_brown, .inl (g.2.1 0, 4, .inl o_brown))] H → va_D A [(tA, .inr (1, [.int o_down, .ref tA_degrees, .ref tA_brown, .int t_core, .int t_water, .int t_pricked, .int t_thinSpots, .int t_seconds, .int t_gone, .int t_splitAt, .int t_steam])), (tA_degrees, .inl (g.2.1 0, 4, .inl t_degrees_1)), (tA_brown, .inl (g.2.1 0, 4, .inl t_brown_2)), (oA, .inr (1, [.int o_down, .ref oA_degrees, .ref oA_brown, .int o_core, .int o_water, .int o_pricked, .int o_thinSpots, .int o_seconds, .int o_gone, .int o_splitAt, .int o_steam])), (oA_degrees, .inl (g.2.1 0, 4, .inl o_degrees)), (oA_brown, .inl (g.2.1 0, 4, .inl o_brown))] → va_S A s.heap H locs → lv_has ls 3 [(0, .ref tA), (1, .ref oA)] → W p l e rX1_take s m args below meth c H locs 0 0 Q (F0 m 45 ls []) := by
    intro t_degrees_1 t_brown_2 hE  H locs ls hP hD hS hl
    try rw [hE] at E
    refine lv_aload_n hx hb dX1_take_45 rfl (lv_at hl 0 rfl) ?_
    refine lv_aload_n hx hb dX1_take_46 rfl (lv_at hl 1 rfl) ?_
    refine va_get (ci := 1) (v := .int o_core) (C := RX1) (T := TX1) (N := 11) hx hb hts inlX1 hown hK.1 hP 3 rfl rfl 3 (by decide) (hts _ kw_80) (fun _ h9 => h9) rfl dX1_take_47 ?_
    refine va_put (ci := 1) (v := .int o_core) (ty := .int) (C := RX1) (T := TX1) (N := 11) hx hb hts inlX1 tyX1 tyX1_ok nmX1 hown hK.1 hP hD hS 0 rfl rfl 3 (by decide) (hts _ kw_80) (fun _ h9 => h9) rfl (tyX1_ok 3 (by decide)) rfl rfl (Nat.le_of_ble_eq_true rfl) dX1_take_50 (fun H locs hP hD hS => ?_)
    have hP : va_P g.1 vwCl [(tA, .inr (1, [.int o_down, .ref tA_degrees, .ref tA_brown, .int o_core, .int t_water, .int t_pricked, .int t_thinSpots, .int t_seconds, .int t_gone, .int t_splitAt, .int t_steam])), (tA_degrees, .inl (g.2.1 0, 4, .inl t_degrees_1)), (tA_brown, .inl (g.2.1 0, 4, .inl t_brown_2)), (oA, .inr (1, [.int o_down, .ref oA_degrees, .ref oA_brown, .int o_core, .int o_water, .int o_pricked, .int o_thinSpots, .int o_seconds, .int o_gone, .int o_splitAt, .int o_steam])), (oA_degrees, .inl (g.2.1 0, 4, .inl o_degrees)), (oA_brown, .inl (g.2.1 0, 4, .inl o_brown))] H := hP
    have hD : va_D A [(tA, .inr (1, [.int o_down, .ref tA_degrees, .ref tA_brown, .int o_core, .int t_water, .int t_pricked, .int t_thinSpots, .int t_seconds, .int t_gone, .int t_splitAt, .int t_steam])), (tA_degrees, .inl (g.2.1 0, 4, .inl t_degrees_1)), (tA_brown, .inl (g.2.1 0, 4, .inl t_brown_2)), (oA, .inr (1, [.int o_down, .ref oA_degrees, .ref oA_brown, .int o_core, .int o_water, .int o_pricked, .int o_thinSpots, .int o_seconds, .int o_gone, .int o_splitAt, .int o_steam])), (oA_degrees, .inl (g.2.1 0, 4, .inl o_degrees)), (oA_brown, .inl (g.2.1 0, 4, .inl o_brown))] := hD
    refine lv_aload_n hx hb dX1_take_53 rfl (lv_at hl 0 rfl) ?_
    refine lv_aload_n hx hb dX1_take_54 rfl (lv_at hl 1 rfl) ?_
    refine va_get (ci := 1) (v := .int o_water) (C := RX1) (T := TX1) (N := 11) hx hb hts inlX1 hown hK.1 hP 3 rfl rfl 4 (by decide) (hts _ kw_81) (fun _ h9 => h9) rfl dX1_take_55 ?_
    refine va_put (ci := 1) (v := .int o_water) (ty := .int) (C := RX1) (T := TX1) (N := 11) hx hb hts inlX1 tyX1 tyX1_ok nmX1 hown hK.1 hP hD hS 0 rfl rfl 4 (by decide) (hts _ kw_81) (fun _ h9 => h9) rfl (tyX1_ok 4 (by decide)) rfl rfl (Nat.le_of_ble_eq_true rfl) dX1_take_58 (fun H locs hP hD hS => ?_)
    have hP : va_P g.1 vwCl [(tA, .inr (1, [.int o_down, .ref tA_degrees, .ref tA_brown, .int o_core, .int o_water, .int t_pricked, .int t_thinSpots, .int t_seconds, .int t_gone, .int t_splitAt, .int t_steam])), (tA_degrees, .inl (g.2.1 0, 4, .inl t_degrees_1)), (tA_brown, .inl (g.2.1 0, 4, .inl t_brown_2)), (oA, .inr (1, [.int o_down, .ref oA_degrees, .ref oA_brown, .int o_core, .int o_water, .int o_pricked, .int o_thinSpots, .int o_seconds, .int o_gone, .int o_splitAt, .int o_steam])), (oA_degrees, .inl (g.2.1 0, 4, .inl o_degrees)), (oA_brown, .inl (g.2.1 0, 4, .inl o_brown))] H := hP
    have hD : va_D A [(tA, .inr (1, [.int o_down, .ref tA_degrees, .ref tA_brown, .int o_core, .int o_water, .int t_pricked, .int t_thinSpots, .int t_seconds, .int t_gone, .int t_splitAt, .int t_steam])), (tA_degrees, .inl (g.2.1 0, 4, .inl t_degrees_1)), (tA_brown, .inl (g.2.1 0, 4, .inl t_brown_2)), (oA, .inr (1, [.int o_down, .ref oA_degrees, .ref oA_brown, .int o_core, .int o_water, .int o_pricked, .int o_thinSpots, .int o_seconds, .int o_gone, .int o_splitAt, .int o_steam])), (oA_degrees, .inl (g.2.1 0, 4, .inl o_degrees)), (oA_brown, .inl (g.2.1 0, 4, .inl o_brown))] := hD
    refine lv_aload_n hx hb dX1_take_61 rfl (lv_at hl 0 rfl) ?_
    refine lv_aload_n hx hb dX1_take_62 rfl (lv_at hl 1 rfl) ?_
    refine va_get (ci := 1) (v := .int o_pricked) (C := RX1) (T := TX1) (N := 11) hx hb hts inlX1 hown hK.1 hP 3 rfl rfl 5 (by decide) (hts _ kw_82) (fun _ h9 => h9) rfl dX1_take_63 ?_
    refine va_put (ci := 1) (v := .int o_pricked) (ty := .int) (C := RX1) (T := TX1) (N := 11) hx hb hts inlX1 tyX1 tyX1_ok nmX1 hown hK.1 hP hD hS 0 rfl rfl 5 (by decide) (hts _ kw_82) (fun _ h9 => h9) rfl (tyX1_ok 5 (by decide)) rfl rfl (Nat.le_of_ble_eq_true rfl) dX1_take_66 (fun H locs hP hD hS => ?_)
    have hP : va_P g.1 vwCl [(tA, .inr (1, [.int o_down, .ref tA_degrees, .ref tA_brown, .int o_core, .int o_water, .int o_pricked, .int t_thinSpots, .int t_seconds, .int t_gone, .int t_splitAt, .int t_steam])), (tA_degrees, .inl (g.2.1 0, 4, .inl t_degrees_1)), (tA_brown, .inl (g.2.1 0, 4, .inl t_brown_2)), (oA, .inr (1, [.int o_down, .ref oA_degrees, .ref oA_brown, .int o_core, .int o_water, .int o_pricked, .int o_thinSpots, .int o_seconds, .int o_gone, .int o_splitAt, .int o_steam])), (oA_degrees, .inl (g.2.1 0, 4, .inl o_degrees)), (oA_brown, .inl (g.2.1 0, 4, .inl o_brown))] H := hP
    have hD : va_D A [(tA, .inr (1, [.int o_down, .ref tA_degrees, .ref tA_brown, .int o_core, .int o_water, .int o_pricked, .int t_thinSpots, .int t_seconds, .int t_gone, .int t_splitAt, .int t_steam])), (tA_degrees, .inl (g.2.1 0, 4, .inl t_degrees_1)), (tA_brown, .inl (g.2.1 0, 4, .inl t_brown_2)), (oA, .inr (1, [.int o_down, .ref oA_degrees, .ref oA_brown, .int o_core, .int o_water, .int o_pricked, .int o_thinSpots, .int o_seconds, .int o_gone, .int o_splitAt, .int o_steam])), (oA_degrees, .inl (g.2.1 0, 4, .inl o_degrees)), (oA_brown, .inl (g.2.1 0, 4, .inl o_brown))] := hD
    refine lv_aload_n hx hb dX1_take_69 rfl (lv_at hl 0 rfl) ?_
    refine lv_aload_n hx hb dX1_take_70 rfl (lv_at hl 1 rfl) ?_
    refine va_get (ci := 1) (v := .int o_thinSpots) (C := RX1) (T := TX1) (N := 11) hx hb hts inlX1 hown hK.1 hP 3 rfl rfl 6 (by decide) (hts _ kw_83) (fun _ h9 => h9) rfl dX1_take_71 ?_
    refine va_put (ci := 1) (v := .int o_thinSpots) (ty := .int) (C := RX1) (T := TX1) (N := 11) hx hb hts inlX1 tyX1 tyX1_ok nmX1 hown hK.1 hP hD hS 0 rfl rfl 6 (by decide) (hts _ kw_83) (fun _ h9 => h9) rfl (tyX1_ok 6 (by decide)) rfl rfl (Nat.le_of_ble_eq_true rfl) dX1_take_74 (fun H locs hP hD hS => ?_)
    have hP : va_P g.1 vwCl [(tA, .inr (1, [.int o_down, .ref tA_degrees, .ref tA_brown, .int o_core, .int o_water, .int o_pricked, .int o_thinSpots, .int t_seconds, .int t_gone, .int t_splitAt, .int t_steam])), (tA_degrees, .inl (g.2.1 0, 4, .inl t_degrees_1)), (tA_brown, .inl (g.2.1 0, 4, .inl t_brown_2)), (oA, .inr (1, [.int o_down, .ref oA_degrees, .ref oA_brown, .int o_core, .int o_water, .int o_pricked, .int o_thinSpots, .int o_seconds, .int o_gone, .int o_splitAt, .int o_steam])), (oA_degrees, .inl (g.2.1 0, 4, .inl o_degrees)), (oA_brown, .inl (g.2.1 0, 4, .inl o_brown))] H := hP
    have hD : va_D A [(tA, .inr (1, [.int o_down, .ref tA_degrees, .ref tA_brown, .int o_core, .int o_water, .int o_pricked, .int o_thinSpots, .int t_seconds, .int t_gone, .int t_splitAt, .int t_steam])), (tA_degrees, .inl (g.2.1 0, 4, .inl t_degrees_1)), (tA_brown, .inl (g.2.1 0, 4, .inl t_brown_2)), (oA, .inr (1, [.int o_down, .ref oA_degrees, .ref oA_brown, .int o_core, .int o_water, .int o_pricked, .int o_thinSpots, .int o_seconds, .int o_gone, .int o_splitAt, .int o_steam])), (oA_degrees, .inl (g.2.1 0, 4, .inl o_degrees)), (oA_brown, .inl (g.2.1 0, 4, .inl o_brown))] := hD
    refine lv_aload_n hx hb dX1_take_77 rfl (lv_at hl 0 rfl) ?_
    refine lv_aload_n hx hb dX1_take_78 rfl (lv_at hl 1 rfl) ?_
    refine va_get (ci := 1) (v := .int o_seconds) (C := RX1) (T := TX1) (N := 11) hx hb hts inlX1 hown hK.1 hP 3 rfl rfl 7 (by decide) (hts _ kw_84) (fun _ h9 => h9) rfl dX1_take_79 ?_
    refine va_put (ci := 1) (v := .int o_seconds) (ty := .int) (C := RX1) (T := TX1) (N := 11) hx hb hts inlX1 tyX1 tyX1_ok nmX1 hown hK.1 hP hD hS 0 rfl rfl 7 (by decide) (hts _ kw_84) (fun _ h9 => h9) rfl (tyX1_ok 7 (by decide)) rfl rfl (Nat.le_of_ble_eq_true rfl) dX1_take_82 (fun H locs hP hD hS => ?_)
    have hP : va_P g.1 vwCl [(tA, .inr (1, [.int o_down, .ref tA_degrees, .ref tA_brown, .int o_core, .int o_water, .int o_pricked, .int o_thinSpots, .int o_seconds, .int t_gone, .int t_splitAt, .int t_steam])), (tA_degrees, .inl (g.2.1 0, 4, .inl t_degrees_1)), (tA_brown, .inl (g.2.1 0, 4, .inl t_brown_2)), (oA, .inr (1, [.int o_down, .ref oA_degrees, .ref oA_brown, .int o_core, .int o_water, .int o_pricked, .int o_thinSpots, .int o_seconds, .int o_gone, .int o_splitAt, .int o_steam])), (oA_degrees, .inl (g.2.1 0, 4, .inl o_degrees)), (oA_brown, .inl (g.2.1 0, 4, .inl o_brown))] H := hP
    have hD : va_D A [(tA, .inr (1, [.int o_down, .ref tA_degrees, .ref tA_brown, .int o_core, .int o_water, .int o_pricked, .int o_thinSpots, .int o_seconds, .int t_gone, .int t_splitAt, .int t_steam])), (tA_degrees, .inl (g.2.1 0, 4, .inl t_degrees_1)), (tA_brown, .inl (g.2.1 0, 4, .inl t_brown_2)), (oA, .inr (1, [.int o_down, .ref oA_degrees, .ref oA_brown, .int o_core, .int o_water, .int o_pricked, .int o_thinSpots, .int o_seconds, .int o_gone, .int o_splitAt, .int o_steam])), (oA_degrees, .inl (g.2.1 0, 4, .inl o_degrees)), (oA_brown, .inl (g.2.1 0, 4, .inl o_brown))] := hD
    refine lv_aload_n hx hb dX1_take_85 rfl (lv_at hl 0 rfl) ?_
    refine lv_aload_n hx hb dX1_take_86 rfl (lv_at hl 1 rfl) ?_
    refine va_get (ci := 1) (v := .int o_gone) (C := RX1) (T := TX1) (N := 11) hx hb hts inlX1 hown hK.1 hP 3 rfl rfl 8 (by decide) (hts _ kw_85) (fun _ h9 => h9) rfl dX1_take_87 ?_
    refine va_put (ci := 1) (v := .int o_gone) (ty := .int) (C := RX1) (T := TX1) (N := 11) hx hb hts inlX1 tyX1 tyX1_ok nmX1 hown hK.1 hP hD hS 0 rfl rfl 8 (by decide) (hts _ kw_85) (fun _ h9 => h9) rfl (tyX1_ok 8 (by decide)) rfl rfl (Nat.le_of_ble_eq_true rfl) dX1_take_90 (fun H locs hP hD hS => ?_)
    have hP : va_P g.1 vwCl [(tA, .inr (1, [.int o_down, .ref tA_degrees, .ref tA_brown, .int o_core, .int o_water, .int o_pricked, .int o_thinSpots, .int o_seconds, .int o_gone, .int t_splitAt, .int t_steam])), (tA_degrees, .inl (g.2.1 0, 4, .inl t_degrees_1)), (tA_brown, .inl (g.2.1 0, 4, .inl t_brown_2)), (oA, .inr (1, [.int o_down, .ref oA_degrees, .ref oA_brown, .int o_core, .int o_water, .int o_pricked, .int o_thinSpots, .int o_seconds, .int o_gone, .int o_splitAt, .int o_steam])), (oA_degrees, .inl (g.2.1 0, 4, .inl o_degrees)), (oA_brown, .inl (g.2.1 0, 4, .inl o_brown))] H := hP
    have hD : va_D A [(tA, .inr (1, [.int o_down, .ref tA_degrees, .ref tA_brown, .int o_core, .int o_water, .int o_pricked, .int o_thinSpots, .int o_seconds, .int o_gone, .int t_splitAt, .int t_steam])), (tA_degrees, .inl (g.2.1 0, 4, .inl t_degrees_1)), (tA_brown, .inl (g.2.1 0, 4, .inl t_brown_2)), (oA, .inr (1, [.int o_down, .ref oA_degrees, .ref oA_brown, .int o_core, .int o_water, .int o_pricked, .int o_thinSpots, .int o_seconds, .int o_gone, .int o_splitAt, .int o_steam])), (oA_degrees, .inl (g.2.1 0, 4, .inl o_degrees)), (oA_brown, .inl (g.2.1 0, 4, .inl o_brown))] := hD
    refine lv_aload_n hx hb dX1_take_93 rfl (lv_at hl 0 rfl) ?_
    refine lv_aload_n hx hb dX1_take_94 rfl (lv_at hl 1 rfl) ?_
    refine va_get (ci := 1) (v := .int o_splitAt) (C := RX1) (T := TX1) (N := 11) hx hb hts inlX1 hown hK.1 hP 3 rfl rfl 9 (by decide) (hts _ kw_86) (fun _ h9 => h9) rfl dX1_take_95 ?_
    refine va_put (ci := 1) (v := .int o_splitAt) (ty := .int) (C := RX1) (T := TX1) (N := 11) hx hb hts inlX1 tyX1 tyX1_ok nmX1 hown hK.1 hP hD hS 0 rfl rfl 9 (by decide) (hts _ kw_86) (fun _ h9 => h9) rfl (tyX1_ok 9 (by decide)) rfl rfl (Nat.le_of_ble_eq_true rfl) dX1_take_98 (fun H locs hP hD hS => ?_)
    have hP : va_P g.1 vwCl [(tA, .inr (1, [.int o_down, .ref tA_degrees, .ref tA_brown, .int o_core, .int o_water, .int o_pricked, .int o_thinSpots, .int o_seconds, .int o_gone, .int o_splitAt, .int t_steam])), (tA_degrees, .inl (g.2.1 0, 4, .inl t_degrees_1)), (tA_brown, .inl (g.2.1 0, 4, .inl t_brown_2)), (oA, .inr (1, [.int o_down, .ref oA_degrees, .ref oA_brown, .int o_core, .int o_water, .int o_pricked, .int o_thinSpots, .int o_seconds, .int o_gone, .int o_splitAt, .int o_steam])), (oA_degrees, .inl (g.2.1 0, 4, .inl o_degrees)), (oA_brown, .inl (g.2.1 0, 4, .inl o_brown))] H := hP
    have hD : va_D A [(tA, .inr (1, [.int o_down, .ref tA_degrees, .ref tA_brown, .int o_core, .int o_water, .int o_pricked, .int o_thinSpots, .int o_seconds, .int o_gone, .int o_splitAt, .int t_steam])), (tA_degrees, .inl (g.2.1 0, 4, .inl t_degrees_1)), (tA_brown, .inl (g.2.1 0, 4, .inl t_brown_2)), (oA, .inr (1, [.int o_down, .ref oA_degrees, .ref oA_brown, .int o_core, .int o_water, .int o_pricked, .int o_thinSpots, .int o_seconds, .int o_gone, .int o_splitAt, .int o_steam])), (oA_degrees, .inl (g.2.1 0, 4, .inl o_degrees)), (oA_brown, .inl (g.2.1 0, 4, .inl o_brown))] := hD
    refine lv_aload_n hx hb dX1_take_101 rfl (lv_at hl 0 rfl) ?_
    refine lv_aload_n hx hb dX1_take_102 rfl (lv_at hl 1 rfl) ?_
    refine va_get (ci := 1) (v := .int o_steam) (C := RX1) (T := TX1) (N := 11) hx hb hts inlX1 hown hK.1 hP 3 rfl rfl 10 (by decide) (hts _ kw_87) (fun _ h9 => h9) rfl dX1_take_103 ?_
    refine va_put (ci := 1) (v := .int o_steam) (ty := .int) (C := RX1) (T := TX1) (N := 11) hx hb hts inlX1 tyX1 tyX1_ok nmX1 hown hK.1 hP hD hS 0 rfl rfl 10 (by decide) (hts _ kw_87) (fun _ h9 => h9) rfl (tyX1_ok 10 (by decide)) rfl rfl (Nat.le_of_ble_eq_true rfl) dX1_take_106 (fun H locs hP hD hS => ?_)
    have hP : va_P g.1 vwCl [(tA, .inr (1, [.int o_down, .ref tA_degrees, .ref tA_brown, .int o_core, .int o_water, .int o_pricked, .int o_thinSpots, .int o_seconds, .int o_gone, .int o_splitAt, .int o_steam])), (tA_degrees, .inl (g.2.1 0, 4, .inl t_degrees_1)), (tA_brown, .inl (g.2.1 0, 4, .inl t_brown_2)), (oA, .inr (1, [.int o_down, .ref oA_degrees, .ref oA_brown, .int o_core, .int o_water, .int o_pricked, .int o_thinSpots, .int o_seconds, .int o_gone, .int o_splitAt, .int o_steam])), (oA_degrees, .inl (g.2.1 0, 4, .inl o_degrees)), (oA_brown, .inl (g.2.1 0, 4, .inl o_brown))] H := hP
    have hD : va_D A [(tA, .inr (1, [.int o_down, .ref tA_degrees, .ref tA_brown, .int o_core, .int o_water, .int o_pricked, .int o_thinSpots, .int o_seconds, .int o_gone, .int o_splitAt, .int o_steam])), (tA_degrees, .inl (g.2.1 0, 4, .inl t_degrees_1)), (tA_brown, .inl (g.2.1 0, 4, .inl t_brown_2)), (oA, .inr (1, [.int o_down, .ref oA_degrees, .ref oA_brown, .int o_core, .int o_water, .int o_pricked, .int o_thinSpots, .int o_seconds, .int o_gone, .int o_splitAt, .int o_steam])), (oA_degrees, .inl (g.2.1 0, 4, .inl o_degrees)), (oA_brown, .inl (g.2.1 0, 4, .inl o_brown))] := hD
    exact RET (o_down, o_core, o_water, o_pricked, o_thinSpots, o_seconds, o_gone, o_splitAt, o_steam, t_degrees_1, t_brown_2) H locs _ _ (E.symm.trans hO) hP hD hS dX1_take_109
  have E := E_3
  have L_7 : ∀ (n_7 : Nat) (k2_4 : Nat) (t_degrees_5 : Nat → Int32) (t_brown_6 : Nat → Int32), (k2_4 ≤ 4) → ((4 - k2_4) < n_7) → o_3 = F_X1_take_L10 o_degrees o_brown n_7 k2_4 t_degrees_5 t_brown_6 → ∀ (H : Heap) (locs : List Loc) (ls : Array Slot), va_P g.1 vwCl [(tA, .inr (1, [.int o_down, .ref tA_degrees, .ref tA_brown, .int t_core, .int t_water, .int t_pricked, .int t_thinSpots, .int t_seconds, .int t_gone, .int t_splitAt, .int t_steam])), (tA_degrees, .inl (g.2.1 0, 4, .inl t_degrees_5)), (tA_brown, .inl (g.2.1 0, 4, .inl t_brown_6)), (oA, .inr (1, [.int o_down, .ref oA_degrees, .ref oA_brown, .int o_core, .int o_water, .int o_pricked, .int o_thinSpots, .int o_seconds, .int o_gone, .int o_splitAt, .int o_steam])), (oA_degrees, .inl (g.2.1 0, 4, .inl o_degrees)), (oA_brown, .inl (g.2.1 0, 4, .inl o_brown))] H → va_D A [(tA, .inr (1, [.int o_down, .ref tA_degrees, .ref tA_brown, .int t_core, .int t_water, .int t_pricked, .int t_thinSpots, .int t_seconds, .int t_gone, .int t_splitAt, .int t_steam])), (tA_degrees, .inl (g.2.1 0, 4, .inl t_degrees_5)), (tA_brown, .inl (g.2.1 0, 4, .inl t_brown_6)), (oA, .inr (1, [.int o_down, .ref oA_degrees, .ref oA_brown, .int o_core, .int o_water, .int o_pricked, .int o_thinSpots, .int o_seconds, .int o_gone, .int o_splitAt, .int o_steam])), (oA_degrees, .inl (g.2.1 0, 4, .inl o_degrees)), (oA_brown, .inl (g.2.1 0, 4, .inl o_brown))] → va_S A s.heap H locs → lv_has ls 3 [(0, .ref tA), (1, .ref oA), (2, .int (nI k2_4))] → W p l e rX1_take s m args below meth c H locs 0 0 Q (F0 m 10 ls []) := by
    intro n_7
    induction n_7 with
    | zero => intro k2_4 t_degrees_5 t_brown_6 i_7_0 i_7_1; exact absurd i_7_1 (by omega)
    | succ n_7 ih_7 =>
      intro k2_4 t_degrees_5 t_brown_6 i_7_0 i_7_1 E H locs ls hP hD hS hl
      rw [F_X1_take_L10.eq_2] at E
      refine lv_iload_n hx hb dX1_take_10 rfl (lv_at hl 2 rfl) ?_
      refine lv_iconst (v := 4) hx hb dX1_take_11 (by decide) ?_
      refine x_icmp_ge (a := k2_4) (b := 4) (tgt := 45) hx hb (by omega) (by omega) dX1_take_12 (by decide) (fun c_8 => ?_) (fun c_8 => ?_)
      · have E := x_pos E c_8
        exact J_3 t_degrees_5 t_brown_6 E  H locs ls hP hD hS (lv_sub hl [0, 1] rfl)
      · have E := x_neg E c_8
        refine lv_aload_n hx hb dX1_take_15 rfl (lv_at hl 0 rfl) ?_
        refine va_get (ci := 1) (v := .ref tA_degrees) (C := RX1) (T := TX1) (N := 11) hx hb hts inlX1 hown hK.1 hP 0 rfl rfl 1 (by decide) (hts _ kw_68) (fun _ h9 => h9) rfl dX1_take_16 ?_
        refine lv_iload_n hx hb dX1_take_19 rfl (lv_at hl 2 rfl) ?_
        refine lv_aload_n hx hb dX1_take_20 rfl (lv_at hl 1 rfl) ?_
        refine va_get (ci := 1) (v := .ref oA_degrees) (C := RX1) (T := TX1) (N := 11) hx hb hts inlX1 hown hK.1 hP 3 rfl rfl 1 (by decide) (hts _ kw_68) (fun _ h9 => h9) rfl dX1_take_21 ?_
        refine lv_iload_n hx hb dX1_take_24 rfl (lv_at hl 2 rfl) ?_
        refine x_ialdN hx hb hK hP 4 k2_4 rfl (by omega) (by decide) dX1_take_25 ?_
        refine x_iastN hx hb hK hP hD hS 1 k2_4 rfl (by omega) (by decide) dX1_take_26 (fun t_degrees_9 H locs hf hP hD hS => ?_)
        have hP : va_P g.1 vwCl [(tA, .inr (1, [.int o_down, .ref tA_degrees, .ref tA_brown, .int t_core, .int t_water, .int t_pricked, .int t_thinSpots, .int t_seconds, .int t_gone, .int t_splitAt, .int t_steam])), (tA_degrees, .inl (g.2.1 0, 4, .inl t_degrees_9)), (tA_brown, .inl (g.2.1 0, 4, .inl t_brown_6)), (oA, .inr (1, [.int o_down, .ref oA_degrees, .ref oA_brown, .int o_core, .int o_water, .int o_pricked, .int o_thinSpots, .int o_seconds, .int o_gone, .int o_splitAt, .int o_steam])), (oA_degrees, .inl (g.2.1 0, 4, .inl o_degrees)), (oA_brown, .inl (g.2.1 0, 4, .inl o_brown))] H := hP
        have hD : va_D A [(tA, .inr (1, [.int o_down, .ref tA_degrees, .ref tA_brown, .int t_core, .int t_water, .int t_pricked, .int t_thinSpots, .int t_seconds, .int t_gone, .int t_splitAt, .int t_steam])), (tA_degrees, .inl (g.2.1 0, 4, .inl t_degrees_9)), (tA_brown, .inl (g.2.1 0, 4, .inl t_brown_6)), (oA, .inr (1, [.int o_down, .ref oA_degrees, .ref oA_brown, .int o_core, .int o_water, .int o_pricked, .int o_thinSpots, .int o_seconds, .int o_gone, .int o_splitAt, .int o_steam])), (oA_degrees, .inl (g.2.1 0, 4, .inl o_degrees)), (oA_brown, .inl (g.2.1 0, 4, .inl o_brown))] := hD
        have E := x_nm_eq E hf
        refine lv_aload_n hx hb dX1_take_27 rfl (lv_at hl 0 rfl) ?_
        refine va_get (ci := 1) (v := .ref tA_brown) (C := RX1) (T := TX1) (N := 11) hx hb hts inlX1 hown hK.1 hP 0 rfl rfl 2 (by decide) (hts _ kw_69) (fun _ h9 => h9) rfl dX1_take_28 ?_
        refine lv_iload_n hx hb dX1_take_31 rfl (lv_at hl 2 rfl) ?_
        refine lv_aload_n hx hb dX1_take_32 rfl (lv_at hl 1 rfl) ?_
        refine va_get (ci := 1) (v := .ref oA_brown) (C := RX1) (T := TX1) (N := 11) hx hb hts inlX1 hown hK.1 hP 3 rfl rfl 2 (by decide) (hts _ kw_69) (fun _ h9 => h9) rfl dX1_take_33 ?_
        refine lv_iload_n hx hb dX1_take_36 rfl (lv_at hl 2 rfl) ?_
        refine x_ialdN hx hb hK hP 5 k2_4 rfl (by omega) (by decide) dX1_take_37 ?_
        refine x_iastN hx hb hK hP hD hS 2 k2_4 rfl (by omega) (by decide) dX1_take_38 (fun t_brown_10 H locs hf hP hD hS => ?_)
        have hP : va_P g.1 vwCl [(tA, .inr (1, [.int o_down, .ref tA_degrees, .ref tA_brown, .int t_core, .int t_water, .int t_pricked, .int t_thinSpots, .int t_seconds, .int t_gone, .int t_splitAt, .int t_steam])), (tA_degrees, .inl (g.2.1 0, 4, .inl t_degrees_9)), (tA_brown, .inl (g.2.1 0, 4, .inl t_brown_10)), (oA, .inr (1, [.int o_down, .ref oA_degrees, .ref oA_brown, .int o_core, .int o_water, .int o_pricked, .int o_thinSpots, .int o_seconds, .int o_gone, .int o_splitAt, .int o_steam])), (oA_degrees, .inl (g.2.1 0, 4, .inl o_degrees)), (oA_brown, .inl (g.2.1 0, 4, .inl o_brown))] H := hP
        have hD : va_D A [(tA, .inr (1, [.int o_down, .ref tA_degrees, .ref tA_brown, .int t_core, .int t_water, .int t_pricked, .int t_thinSpots, .int t_seconds, .int t_gone, .int t_splitAt, .int t_steam])), (tA_degrees, .inl (g.2.1 0, 4, .inl t_degrees_9)), (tA_brown, .inl (g.2.1 0, 4, .inl t_brown_10)), (oA, .inr (1, [.int o_down, .ref oA_degrees, .ref oA_brown, .int o_core, .int o_water, .int o_pricked, .int o_thinSpots, .int o_seconds, .int o_gone, .int o_splitAt, .int o_steam])), (oA_degrees, .inl (g.2.1 0, 4, .inl o_degrees)), (oA_brown, .inl (g.2.1 0, 4, .inl o_brown))] := hD
        have E := x_nm_eq E hf
        refine lv_iinc (v := nI (k2_4 + 1)) (lv' := [(2, .int (nI (k2_4 + 1))), (0, .ref tA), (1, .ref oA)]) hx hb dX1_take_39 hl (k := 2) rfl (nI_1 k2_4) (by decide) rfl (fun ls hl => ?_)
        refine lv_goto (tgt := 10) hx hb dX1_take_42 (by decide) ?_
        exact ih_7 (k2_4 + 1) t_degrees_9 t_brown_10 (by first | omega | assumption | exact Eq.trans (by assumption) (by assumption)) (by omega) E H locs ls hP hD hS (lv_sub hl [1, 2, 0] rfl)
  exact L_7 (4 + 1) 0 t_degrees t_brown (by first | omega | assumption | rfl) (by omega) E H locs ls hP hD hS (lv_sub hl [1, 2, 0] rfl)
abbrev rX1_leastBrown : Room := { frames := 1, cells := 0, slots := 0, locals := 21 }
theorem vX1_leastBrown : yX1_leastBrown.cls = RX1 ∧ yX1_leastBrown.cls ≠ "java/lang/invoke/MethodHandle" ∧ yX1_leastBrown.cls ≠ "java/lang/invoke/VarHandle" ∧ (parseMethodDescriptor yX1_leastBrown.desc).map (fun d => d.parameters.length) = some 0 := by decide +kernel
abbrev wX1_leastBrown : List Cond := Cond.code yX1_leastBrown cX1_leastBrown 1 (some .int) :: wsL_law
def F_X1_leastBrown (t_brown : Nat → Int32) : Int32 :=
  x_nm (if (t_brown 1) < (t_brown 0) then (t_brown 1) else (t_brown 0)) fun q_1 => x_nm (if (t_brown 3) < (t_brown 2) then (t_brown 3) else (t_brown 2)) fun q_2 => x_nm (if q_2 < q_1 then q_2 else q_1) fun q_3 => q_3
set_option maxHeartbeats 4000000 in
set_option maxRecDepth 100000 in
theorem m_X1_leastBrown (l : Launch) (g : x_G) (tA tA_brown tA_degrees : Nat) (t_down : Int32) (t_core : Int32) (t_water : Int32) (t_pricked : Int32) (t_thinSpots : Int32) (t_seconds : Int32) (t_gone : Int32) (t_splitAt : Int32) (t_steam : Int32) (t_brown : Nat → Int32) : x_MetI l yX1_leastBrown wX1_leastBrown rX1_leastBrown g [.ref tA] [(tA, .inr (1, [.int t_down, .ref tA_degrees, .ref tA_brown, .int t_core, .int t_water, .int t_pricked, .int t_thinSpots, .int t_seconds, .int t_gone, .int t_splitAt, .int t_steam])), (tA_brown, .inl (g.2.1 0, 4, .inl t_brown))] (fun (r : Int32) (u : Unit) => r = F_X1_leastBrown t_brown) (fun _ => [(tA, .inr (1, [.int t_down, .ref tA_degrees, .ref tA_brown, .int t_core, .int t_water, .int t_pricked, .int t_thinSpots, .int t_seconds, .int t_gone, .int t_splitAt, .int t_steam])), (tA_brown, .inl (g.2.1 0, 4, .inl t_brown))]) := by
  refine x_startI (cc := cX1_leastBrown) (maxL := 1) (by decide) rfl (Nat.le_of_ble_eq_true rfl) ?_
  intro p e s m args below meth c Q A ls H locs hx hb hml hown hts hK hX hP hD hS hA hl RET
  have hown : s.vm.findClass RX1 = some m.cls := hown
  have hl : lv_has ls 1 [(0, .ref tA)] := hl
  obtain ⟨o_0, hO⟩ : ∃ z, z = F_X1_leastBrown t_brown := ⟨_, rfl⟩
  have E := hO
  rw [F_X1_leastBrown.eq_1] at E
  refine lv_aload_n hx hb dX1_leastBrown_0 rfl (lv_at hl 0 rfl) ?_
  refine va_get (ci := 1) (v := .ref tA_brown) (C := RX1) (T := TX1) (N := 11) hx hb hts inlX1 hown hK.1 hP 0 rfl rfl 2 (by decide) (hts _ kw_69) (fun _ h9 => h9) rfl dX1_leastBrown_1 ?_
  refine lv_iconst (v := 0) hx hb dX1_leastBrown_4 (by decide) ?_
  refine x_ialdN hx hb hK hP 1 0 rfl (by omega) (by decide) dX1_leastBrown_5 ?_
  refine lv_aload_n hx hb dX1_leastBrown_6 rfl (lv_at hl 0 rfl) ?_
  refine va_get (ci := 1) (v := .ref tA_brown) (C := RX1) (T := TX1) (N := 11) hx hb hts inlX1 hown hK.1 hP 0 rfl rfl 2 (by decide) (hts _ kw_69) (fun _ h9 => h9) rfl dX1_leastBrown_7 ?_
  refine lv_iconst (v := 1) hx hb dX1_leastBrown_10 (by decide) ?_
  refine x_ialdN hx hb hK hP 1 1 rfl (by omega) (by decide) dX1_leastBrown_11 ?_
  refine va_mmin hx hb (hml.trans hl.1.symm) hown (hts _ kw_413) (hts _ kw_171) (hts _ kw_172) (hts _ kw_173) (Nat.le_of_ble_eq_true rfl) (Nat.le_of_ble_eq_true rfl) (Nat.zero_le _) (Nat.zero_le _) dX1_leastBrown_12 ?_
  refine lv_topi (fun q_1 hq => ?_)
  have E := x_nm_eq E hq
  refine lv_aload_n hx hb dX1_leastBrown_15 rfl (lv_at hl 0 rfl) ?_
  refine va_get (ci := 1) (v := .ref tA_brown) (C := RX1) (T := TX1) (N := 11) hx hb hts inlX1 hown hK.1 hP 0 rfl rfl 2 (by decide) (hts _ kw_69) (fun _ h9 => h9) rfl dX1_leastBrown_16 ?_
  refine lv_iconst (v := 2) hx hb dX1_leastBrown_19 (by decide) ?_
  refine x_ialdN hx hb hK hP 1 2 rfl (by omega) (by decide) dX1_leastBrown_20 ?_
  refine lv_aload_n hx hb dX1_leastBrown_21 rfl (lv_at hl 0 rfl) ?_
  refine va_get (ci := 1) (v := .ref tA_brown) (C := RX1) (T := TX1) (N := 11) hx hb hts inlX1 hown hK.1 hP 0 rfl rfl 2 (by decide) (hts _ kw_69) (fun _ h9 => h9) rfl dX1_leastBrown_22 ?_
  refine lv_iconst (v := 3) hx hb dX1_leastBrown_25 (by decide) ?_
  refine x_ialdN hx hb hK hP 1 3 rfl (by omega) (by decide) dX1_leastBrown_26 ?_
  refine va_mmin hx hb (hml.trans hl.1.symm) hown (hts _ kw_413) (hts _ kw_171) (hts _ kw_172) (hts _ kw_173) (Nat.le_of_ble_eq_true rfl) (Nat.le_of_ble_eq_true rfl) (Nat.zero_le _) (Nat.zero_le _) dX1_leastBrown_27 ?_
  refine lv_topi (fun q_2 hq => ?_)
  have E := x_nm_eq E hq
  refine va_mmin hx hb (hml.trans hl.1.symm) hown (hts _ kw_413) (hts _ kw_171) (hts _ kw_172) (hts _ kw_173) (Nat.le_of_ble_eq_true rfl) (Nat.le_of_ble_eq_true rfl) (Nat.zero_le _) (Nat.zero_le _) dX1_leastBrown_30 ?_
  refine lv_topi (fun q_3 hq => ?_)
  have E := x_nm_eq E hq
  exact RET q_3 () H locs _ _ (E.symm.trans hO) rfl hP hD hS dX1_leastBrown_33
abbrev rX1_greatestBrown : Room := { frames := 1, cells := 0, slots := 0, locals := 21 }
theorem vX1_greatestBrown : yX1_greatestBrown.cls = RX1 ∧ yX1_greatestBrown.cls ≠ "java/lang/invoke/MethodHandle" ∧ yX1_greatestBrown.cls ≠ "java/lang/invoke/VarHandle" ∧ (parseMethodDescriptor yX1_greatestBrown.desc).map (fun d => d.parameters.length) = some 0 := by decide +kernel
abbrev wX1_greatestBrown : List Cond := Cond.code yX1_greatestBrown cX1_greatestBrown 1 (some .int) :: wsL_law
def F_X1_greatestBrown (t_brown : Nat → Int32) : Int32 :=
  x_nm (if (t_brown 0) < (t_brown 1) then (t_brown 1) else (t_brown 0)) fun q_1 => x_nm (if (t_brown 2) < (t_brown 3) then (t_brown 3) else (t_brown 2)) fun q_2 => x_nm (if q_1 < q_2 then q_2 else q_1) fun q_3 => q_3
set_option maxHeartbeats 4000000 in
set_option maxRecDepth 100000 in
theorem m_X1_greatestBrown (l : Launch) (g : x_G) (tA tA_brown tA_degrees : Nat) (t_down : Int32) (t_core : Int32) (t_water : Int32) (t_pricked : Int32) (t_thinSpots : Int32) (t_seconds : Int32) (t_gone : Int32) (t_splitAt : Int32) (t_steam : Int32) (t_brown : Nat → Int32) : x_MetI l yX1_greatestBrown wX1_greatestBrown rX1_greatestBrown g [.ref tA] [(tA, .inr (1, [.int t_down, .ref tA_degrees, .ref tA_brown, .int t_core, .int t_water, .int t_pricked, .int t_thinSpots, .int t_seconds, .int t_gone, .int t_splitAt, .int t_steam])), (tA_brown, .inl (g.2.1 0, 4, .inl t_brown))] (fun (r : Int32) (u : Unit) => r = F_X1_greatestBrown t_brown) (fun _ => [(tA, .inr (1, [.int t_down, .ref tA_degrees, .ref tA_brown, .int t_core, .int t_water, .int t_pricked, .int t_thinSpots, .int t_seconds, .int t_gone, .int t_splitAt, .int t_steam])), (tA_brown, .inl (g.2.1 0, 4, .inl t_brown))]) := by
  refine x_startI (cc := cX1_greatestBrown) (maxL := 1) (by decide) rfl (Nat.le_of_ble_eq_true rfl) ?_
  intro p e s m args below meth c Q A ls H locs hx hb hml hown hts hK hX hP hD hS hA hl RET
  have hown : s.vm.findClass RX1 = some m.cls := hown
  have hl : lv_has ls 1 [(0, .ref tA)] := hl
  obtain ⟨o_0, hO⟩ : ∃ z, z = F_X1_greatestBrown t_brown := ⟨_, rfl⟩
  have E := hO
  rw [F_X1_greatestBrown.eq_1] at E
  refine lv_aload_n hx hb dX1_greatestBrown_0 rfl (lv_at hl 0 rfl) ?_
  refine va_get (ci := 1) (v := .ref tA_brown) (C := RX1) (T := TX1) (N := 11) hx hb hts inlX1 hown hK.1 hP 0 rfl rfl 2 (by decide) (hts _ kw_69) (fun _ h9 => h9) rfl dX1_greatestBrown_1 ?_
  refine lv_iconst (v := 0) hx hb dX1_greatestBrown_4 (by decide) ?_
  refine x_ialdN hx hb hK hP 1 0 rfl (by omega) (by decide) dX1_greatestBrown_5 ?_
  refine lv_aload_n hx hb dX1_greatestBrown_6 rfl (lv_at hl 0 rfl) ?_
  refine va_get (ci := 1) (v := .ref tA_brown) (C := RX1) (T := TX1) (N := 11) hx hb hts inlX1 hown hK.1 hP 0 rfl rfl 2 (by decide) (hts _ kw_69) (fun _ h9 => h9) rfl dX1_greatestBrown_7 ?_
  refine lv_iconst (v := 1) hx hb dX1_greatestBrown_10 (by decide) ?_
  refine x_ialdN hx hb hK hP 1 1 rfl (by omega) (by decide) dX1_greatestBrown_11 ?_
  refine va_mmax hx hb (hml.trans hl.1.symm) hown (hts _ kw_402) (hts _ kw_403) (hts _ kw_172) (hts _ kw_404) (Nat.le_of_ble_eq_true rfl) (Nat.le_of_ble_eq_true rfl) (Nat.zero_le _) (Nat.zero_le _) dX1_greatestBrown_12 ?_
  refine lv_topi (fun q_1 hq => ?_)
  have E := x_nm_eq E hq
  refine lv_aload_n hx hb dX1_greatestBrown_15 rfl (lv_at hl 0 rfl) ?_
  refine va_get (ci := 1) (v := .ref tA_brown) (C := RX1) (T := TX1) (N := 11) hx hb hts inlX1 hown hK.1 hP 0 rfl rfl 2 (by decide) (hts _ kw_69) (fun _ h9 => h9) rfl dX1_greatestBrown_16 ?_
  refine lv_iconst (v := 2) hx hb dX1_greatestBrown_19 (by decide) ?_
  refine x_ialdN hx hb hK hP 1 2 rfl (by omega) (by decide) dX1_greatestBrown_20 ?_
  refine lv_aload_n hx hb dX1_greatestBrown_21 rfl (lv_at hl 0 rfl) ?_
  refine va_get (ci := 1) (v := .ref tA_brown) (C := RX1) (T := TX1) (N := 11) hx hb hts inlX1 hown hK.1 hP 0 rfl rfl 2 (by decide) (hts _ kw_69) (fun _ h9 => h9) rfl dX1_greatestBrown_22 ?_
  refine lv_iconst (v := 3) hx hb dX1_greatestBrown_25 (by decide) ?_
  refine x_ialdN hx hb hK hP 1 3 rfl (by omega) (by decide) dX1_greatestBrown_26 ?_
  refine va_mmax hx hb (hml.trans hl.1.symm) hown (hts _ kw_402) (hts _ kw_403) (hts _ kw_172) (hts _ kw_404) (Nat.le_of_ble_eq_true rfl) (Nat.le_of_ble_eq_true rfl) (Nat.zero_le _) (Nat.zero_le _) dX1_greatestBrown_27 ?_
  refine lv_topi (fun q_2 hq => ?_)
  have E := x_nm_eq E hq
  refine va_mmax hx hb (hml.trans hl.1.symm) hown (hts _ kw_402) (hts _ kw_403) (hts _ kw_172) (hts _ kw_404) (Nat.le_of_ble_eq_true rfl) (Nat.le_of_ble_eq_true rfl) (Nat.zero_le _) (Nat.zero_le _) dX1_greatestBrown_30 ?_
  refine lv_topi (fun q_3 hq => ?_)
  have E := x_nm_eq E hq
  exact RET q_3 () H locs _ _ (E.symm.trans hO) rfl hP hD hS dX1_greatestBrown_33
abbrev rX3_setAtFirst : Room := { frames := 0, cells := 0, slots := 0, locals := 0 }
theorem vX3_setAtFirst : yX3_setAtFirst.cls = RX3 ∧ yX3_setAtFirst.cls ≠ "java/lang/invoke/MethodHandle" ∧ yX3_setAtFirst.cls ≠ "java/lang/invoke/VarHandle" ∧ (parseMethodDescriptor yX3_setAtFirst.desc).map (fun d => d.parameters.length) = some 0 := by decide +kernel
abbrev wX3_setAtFirst : List Cond := Cond.code yX3_setAtFirst cX3_setAtFirst 1 none :: wsL_law
def F_X3_setAtFirst : Int32 × Int32 × Int32 × Int32 × Int32 × Int32 × Int32 × Int32 × Int32 × Nat :=
  (3, 200, 10, 300, 300, 40, 2, 4, 0, 0)
set_option maxHeartbeats 4000000 in
set_option maxRecDepth 100000 in
theorem m_X3_setAtFirst (l : Launch) (g : x_G) (tA tA_kinds tA_firsts tA_seconds : Nat) (t_radius : Int32) (t_skin : Int32) (t_filling : Int32) (t_water : Int32) (t_ends : Int32) (t_thin : Int32) (t_chance : Int32) (t_bentFace : Int32) (t_bentBy : Int32) (t_doings : Nat) : x_MetV l yX3_setAtFirst wX3_setAtFirst rX3_setAtFirst g [.ref tA] [(tA, .inr (3, [.int t_radius, .int t_skin, .int t_filling, .int t_water, .int t_ends, .int t_thin, .int t_chance, .int t_bentFace, .int t_bentBy, .int (nI t_doings), .ref tA_kinds, .ref tA_firsts, .ref tA_seconds]))] (fun u : Int32 × Int32 × Int32 × Int32 × Int32 × Int32 × Int32 × Int32 × Int32 × Nat => (u = F_X3_setAtFirst) ∧ (u.2.2.2.2.2.2.2.2.2 ≤ 12)) (fun u => [(tA, .inr (3, [.int u.1, .int u.2.1, .int u.2.2.1, .int u.2.2.2.1, .int u.2.2.2.2.1, .int u.2.2.2.2.2.1, .int u.2.2.2.2.2.2.1, .int u.2.2.2.2.2.2.2.1, .int u.2.2.2.2.2.2.2.2.1, .int (nI u.2.2.2.2.2.2.2.2.2), .ref tA_kinds, .ref tA_firsts, .ref tA_seconds]))]) := by
  refine x_startV (cc := cX3_setAtFirst) (maxL := 1) (by decide) rfl (Nat.le_of_ble_eq_true rfl) ?_
  intro p e s m args below meth c Q A ls H locs hx hb hml hown hts hK hX hP hD hS hA hl RET
  have hown : s.vm.findClass RX3 = some m.cls := hown
  have hl : lv_has ls 1 [(0, .ref tA)] := hl
  obtain ⟨o_0, hO⟩ : ∃ z, z = F_X3_setAtFirst := ⟨_, rfl⟩
  have E := hO
  rw [F_X3_setAtFirst.eq_1] at E
  refine lv_aload_n hx hb dX3_setAtFirst_0 rfl (lv_at hl 0 rfl) ?_
  refine lv_iconst (v := 3) hx hb dX3_setAtFirst_1 (by decide) ?_
  refine va_put (ci := 3) (v := .int 3) (ty := .int) (C := RX3) (T := TX3) (N := 13) hx hb hts inlX3 tyX3 tyX3_ok nmX3 hown hK.1 hP hD hS 0 rfl rfl 0 (by decide) (hts _ kw_50) (fun _ h9 => h9) rfl (tyX3_ok 0 (by decide)) rfl rfl (Nat.le_of_ble_eq_true rfl) dX3_setAtFirst_2 (fun H locs hP hD hS => ?_)
  have hP : va_P g.1 vwCl [(tA, .inr (3, [.int 3, .int t_skin, .int t_filling, .int t_water, .int t_ends, .int t_thin, .int t_chance, .int t_bentFace, .int t_bentBy, .int (nI t_doings), .ref tA_kinds, .ref tA_firsts, .ref tA_seconds]))] H := hP
  have hD : va_D A [(tA, .inr (3, [.int 3, .int t_skin, .int t_filling, .int t_water, .int t_ends, .int t_thin, .int t_chance, .int t_bentFace, .int t_bentBy, .int (nI t_doings), .ref tA_kinds, .ref tA_firsts, .ref tA_seconds]))] := hD
  refine lv_aload_n hx hb dX3_setAtFirst_5 rfl (lv_at hl 0 rfl) ?_
  refine lv_sipush (v := 200) hx hb dX3_setAtFirst_6 (by decide) ?_
  refine va_put (ci := 3) (v := .int 200) (ty := .int) (C := RX3) (T := TX3) (N := 13) hx hb hts inlX3 tyX3 tyX3_ok nmX3 hown hK.1 hP hD hS 0 rfl rfl 1 (by decide) (hts _ kw_51) (fun _ h9 => h9) rfl (tyX3_ok 1 (by decide)) rfl rfl (Nat.le_of_ble_eq_true rfl) dX3_setAtFirst_9 (fun H locs hP hD hS => ?_)
  have hP : va_P g.1 vwCl [(tA, .inr (3, [.int 3, .int 200, .int t_filling, .int t_water, .int t_ends, .int t_thin, .int t_chance, .int t_bentFace, .int t_bentBy, .int (nI t_doings), .ref tA_kinds, .ref tA_firsts, .ref tA_seconds]))] H := hP
  have hD : va_D A [(tA, .inr (3, [.int 3, .int 200, .int t_filling, .int t_water, .int t_ends, .int t_thin, .int t_chance, .int t_bentFace, .int t_bentBy, .int (nI t_doings), .ref tA_kinds, .ref tA_firsts, .ref tA_seconds]))] := hD
  refine lv_aload_n hx hb dX3_setAtFirst_12 rfl (lv_at hl 0 rfl) ?_
  refine lv_bipush (v := 10) hx hb dX3_setAtFirst_13 (by decide) ?_
  refine va_put (ci := 3) (v := .int 10) (ty := .int) (C := RX3) (T := TX3) (N := 13) hx hb hts inlX3 tyX3 tyX3_ok nmX3 hown hK.1 hP hD hS 0 rfl rfl 2 (by decide) (hts _ kw_52) (fun _ h9 => h9) rfl (tyX3_ok 2 (by decide)) rfl rfl (Nat.le_of_ble_eq_true rfl) dX3_setAtFirst_15 (fun H locs hP hD hS => ?_)
  have hP : va_P g.1 vwCl [(tA, .inr (3, [.int 3, .int 200, .int 10, .int t_water, .int t_ends, .int t_thin, .int t_chance, .int t_bentFace, .int t_bentBy, .int (nI t_doings), .ref tA_kinds, .ref tA_firsts, .ref tA_seconds]))] H := hP
  have hD : va_D A [(tA, .inr (3, [.int 3, .int 200, .int 10, .int t_water, .int t_ends, .int t_thin, .int t_chance, .int t_bentFace, .int t_bentBy, .int (nI t_doings), .ref tA_kinds, .ref tA_firsts, .ref tA_seconds]))] := hD
  refine lv_aload_n hx hb dX3_setAtFirst_18 rfl (lv_at hl 0 rfl) ?_
  refine lv_sipush (v := 300) hx hb dX3_setAtFirst_19 (by decide) ?_
  refine va_put (ci := 3) (v := .int 300) (ty := .int) (C := RX3) (T := TX3) (N := 13) hx hb hts inlX3 tyX3 tyX3_ok nmX3 hown hK.1 hP hD hS 0 rfl rfl 3 (by decide) (hts _ kw_53) (fun _ h9 => h9) rfl (tyX3_ok 3 (by decide)) rfl rfl (Nat.le_of_ble_eq_true rfl) dX3_setAtFirst_22 (fun H locs hP hD hS => ?_)
  have hP : va_P g.1 vwCl [(tA, .inr (3, [.int 3, .int 200, .int 10, .int 300, .int t_ends, .int t_thin, .int t_chance, .int t_bentFace, .int t_bentBy, .int (nI t_doings), .ref tA_kinds, .ref tA_firsts, .ref tA_seconds]))] H := hP
  have hD : va_D A [(tA, .inr (3, [.int 3, .int 200, .int 10, .int 300, .int t_ends, .int t_thin, .int t_chance, .int t_bentFace, .int t_bentBy, .int (nI t_doings), .ref tA_kinds, .ref tA_firsts, .ref tA_seconds]))] := hD
  refine lv_aload_n hx hb dX3_setAtFirst_25 rfl (lv_at hl 0 rfl) ?_
  refine lv_sipush (v := 300) hx hb dX3_setAtFirst_26 (by decide) ?_
  refine va_put (ci := 3) (v := .int 300) (ty := .int) (C := RX3) (T := TX3) (N := 13) hx hb hts inlX3 tyX3 tyX3_ok nmX3 hown hK.1 hP hD hS 0 rfl rfl 4 (by decide) (hts _ kw_54) (fun _ h9 => h9) rfl (tyX3_ok 4 (by decide)) rfl rfl (Nat.le_of_ble_eq_true rfl) dX3_setAtFirst_29 (fun H locs hP hD hS => ?_)
  have hP : va_P g.1 vwCl [(tA, .inr (3, [.int 3, .int 200, .int 10, .int 300, .int 300, .int t_thin, .int t_chance, .int t_bentFace, .int t_bentBy, .int (nI t_doings), .ref tA_kinds, .ref tA_firsts, .ref tA_seconds]))] H := hP
  have hD : va_D A [(tA, .inr (3, [.int 3, .int 200, .int 10, .int 300, .int 300, .int t_thin, .int t_chance, .int t_bentFace, .int t_bentBy, .int (nI t_doings), .ref tA_kinds, .ref tA_firsts, .ref tA_seconds]))] := hD
  refine lv_aload_n hx hb dX3_setAtFirst_32 rfl (lv_at hl 0 rfl) ?_
  refine lv_bipush (v := 40) hx hb dX3_setAtFirst_33 (by decide) ?_
  refine va_put (ci := 3) (v := .int 40) (ty := .int) (C := RX3) (T := TX3) (N := 13) hx hb hts inlX3 tyX3 tyX3_ok nmX3 hown hK.1 hP hD hS 0 rfl rfl 5 (by decide) (hts _ kw_55) (fun _ h9 => h9) rfl (tyX3_ok 5 (by decide)) rfl rfl (Nat.le_of_ble_eq_true rfl) dX3_setAtFirst_35 (fun H locs hP hD hS => ?_)
  have hP : va_P g.1 vwCl [(tA, .inr (3, [.int 3, .int 200, .int 10, .int 300, .int 300, .int 40, .int t_chance, .int t_bentFace, .int t_bentBy, .int (nI t_doings), .ref tA_kinds, .ref tA_firsts, .ref tA_seconds]))] H := hP
  have hD : va_D A [(tA, .inr (3, [.int 3, .int 200, .int 10, .int 300, .int 300, .int 40, .int t_chance, .int t_bentFace, .int t_bentBy, .int (nI t_doings), .ref tA_kinds, .ref tA_firsts, .ref tA_seconds]))] := hD
  refine lv_aload_n hx hb dX3_setAtFirst_38 rfl (lv_at hl 0 rfl) ?_
  refine lv_iconst (v := 2) hx hb dX3_setAtFirst_39 (by decide) ?_
  refine va_put (ci := 3) (v := .int 2) (ty := .int) (C := RX3) (T := TX3) (N := 13) hx hb hts inlX3 tyX3 tyX3_ok nmX3 hown hK.1 hP hD hS 0 rfl rfl 6 (by decide) (hts _ kw_56) (fun _ h9 => h9) rfl (tyX3_ok 6 (by decide)) rfl rfl (Nat.le_of_ble_eq_true rfl) dX3_setAtFirst_40 (fun H locs hP hD hS => ?_)
  have hP : va_P g.1 vwCl [(tA, .inr (3, [.int 3, .int 200, .int 10, .int 300, .int 300, .int 40, .int 2, .int t_bentFace, .int t_bentBy, .int (nI t_doings), .ref tA_kinds, .ref tA_firsts, .ref tA_seconds]))] H := hP
  have hD : va_D A [(tA, .inr (3, [.int 3, .int 200, .int 10, .int 300, .int 300, .int 40, .int 2, .int t_bentFace, .int t_bentBy, .int (nI t_doings), .ref tA_kinds, .ref tA_firsts, .ref tA_seconds]))] := hD
  refine lv_aload_n hx hb dX3_setAtFirst_43 rfl (lv_at hl 0 rfl) ?_
  refine lv_iconst (v := 4) hx hb dX3_setAtFirst_44 (by decide) ?_
  refine va_put (ci := 3) (v := .int 4) (ty := .int) (C := RX3) (T := TX3) (N := 13) hx hb hts inlX3 tyX3 tyX3_ok nmX3 hown hK.1 hP hD hS 0 rfl rfl 7 (by decide) (hts _ kw_57) (fun _ h9 => h9) rfl (tyX3_ok 7 (by decide)) rfl rfl (Nat.le_of_ble_eq_true rfl) dX3_setAtFirst_45 (fun H locs hP hD hS => ?_)
  have hP : va_P g.1 vwCl [(tA, .inr (3, [.int 3, .int 200, .int 10, .int 300, .int 300, .int 40, .int 2, .int 4, .int t_bentBy, .int (nI t_doings), .ref tA_kinds, .ref tA_firsts, .ref tA_seconds]))] H := hP
  have hD : va_D A [(tA, .inr (3, [.int 3, .int 200, .int 10, .int 300, .int 300, .int 40, .int 2, .int 4, .int t_bentBy, .int (nI t_doings), .ref tA_kinds, .ref tA_firsts, .ref tA_seconds]))] := hD
  refine lv_aload_n hx hb dX3_setAtFirst_48 rfl (lv_at hl 0 rfl) ?_
  refine lv_iconst (v := 0) hx hb dX3_setAtFirst_49 (by decide) ?_
  refine va_put (ci := 3) (v := .int 0) (ty := .int) (C := RX3) (T := TX3) (N := 13) hx hb hts inlX3 tyX3 tyX3_ok nmX3 hown hK.1 hP hD hS 0 rfl rfl 8 (by decide) (hts _ kw_58) (fun _ h9 => h9) rfl (tyX3_ok 8 (by decide)) rfl rfl (Nat.le_of_ble_eq_true rfl) dX3_setAtFirst_50 (fun H locs hP hD hS => ?_)
  have hP : va_P g.1 vwCl [(tA, .inr (3, [.int 3, .int 200, .int 10, .int 300, .int 300, .int 40, .int 2, .int 4, .int 0, .int (nI t_doings), .ref tA_kinds, .ref tA_firsts, .ref tA_seconds]))] H := hP
  have hD : va_D A [(tA, .inr (3, [.int 3, .int 200, .int 10, .int 300, .int 300, .int 40, .int 2, .int 4, .int 0, .int (nI t_doings), .ref tA_kinds, .ref tA_firsts, .ref tA_seconds]))] := hD
  refine lv_aload_n hx hb dX3_setAtFirst_53 rfl (lv_at hl 0 rfl) ?_
  refine lv_iconst (v := 0) hx hb dX3_setAtFirst_54 (by decide) ?_
  refine va_put (ci := 3) (v := .int 0) (ty := .int) (C := RX3) (T := TX3) (N := 13) hx hb hts inlX3 tyX3 tyX3_ok nmX3 hown hK.1 hP hD hS 0 rfl rfl 9 (by decide) (hts _ kw_59) (fun _ h9 => h9) rfl (tyX3_ok 9 (by decide)) rfl rfl (Nat.le_of_ble_eq_true rfl) dX3_setAtFirst_55 (fun H locs hP hD hS => ?_)
  have hP : va_P g.1 vwCl [(tA, .inr (3, [.int 3, .int 200, .int 10, .int 300, .int 300, .int 40, .int 2, .int 4, .int 0, .int 0, .ref tA_kinds, .ref tA_firsts, .ref tA_seconds]))] H := hP
  have hD : va_D A [(tA, .inr (3, [.int 3, .int 200, .int 10, .int 300, .int 300, .int 40, .int 2, .int 4, .int 0, .int 0, .ref tA_kinds, .ref tA_firsts, .ref tA_seconds]))] := hD
  exact RET (3, 200, 10, 300, 300, 40, 2, 4, 0, 0) H locs _ _ ⟨E.symm.trans hO, (show 0 ≤ 12 by first | omega | assumption | exact Or.inl rfl | exact Or.inr (by omega))⟩ hP hD hS dX3_setAtFirst_58
abbrev rX3_take : Room := { frames := 0, cells := 0, slots := 0, locals := 0 }
theorem vX3_take : yX3_take.cls = RX3 ∧ yX3_take.cls ≠ "java/lang/invoke/MethodHandle" ∧ yX3_take.cls ≠ "java/lang/invoke/VarHandle" ∧ (parseMethodDescriptor yX3_take.desc).map (fun d => d.parameters.length) = some 1 := by decide +kernel
abbrev wX3_take : List Cond := Cond.code yX3_take cX3_take 3 none :: wsL_law
def F_X3_take_L82 (r_kinds : Nat → Int32) (r_firsts : Nat → Int32) (r_seconds : Nat → Int32) : Nat → Nat → (Nat → Int32) → (Nat → Int32) → (Nat → Int32) → (Nat → Int32) × (Nat → Int32) × (Nat → Int32)
  | 0, k2_5, t_kinds_6, t_firsts_7, t_seconds_8 => (t_kinds_6, t_firsts_7, t_seconds_8)
  | n_9 + 1, k2_5, t_kinds_6, t_firsts_7, t_seconds_8 => if 12 ≤ k2_5 then (t_kinds_6, t_firsts_7, t_seconds_8) else x_nm (upd t_kinds_6 k2_5 (r_kinds k2_5)) fun t_kinds_11 => x_nm (upd t_firsts_7 k2_5 (r_firsts k2_5)) fun t_firsts_12 => x_nm (upd t_seconds_8 k2_5 (r_seconds k2_5)) fun t_seconds_13 => F_X3_take_L82 r_kinds r_firsts r_seconds n_9 (k2_5 + 1) t_kinds_11 t_firsts_12 t_seconds_13
def F_X3_take (t_kinds : Nat → Int32) (t_firsts : Nat → Int32) (t_seconds : Nat → Int32) (r_radius : Int32) (r_skin : Int32) (r_filling : Int32) (r_water : Int32) (r_ends : Int32) (r_thin : Int32) (r_chance : Int32) (r_bentFace : Int32) (r_bentBy : Int32) (r_doings : Nat) (r_kinds : Nat → Int32) (r_firsts : Nat → Int32) (r_seconds : Nat → Int32) : Int32 × Int32 × Int32 × Int32 × Int32 × Int32 × Int32 × Int32 × Int32 × Nat × (Nat → Int32) × (Nat → Int32) × (Nat → Int32) :=
  x_nm (α := (Nat → Int32) × (Nat → Int32) × (Nat → Int32)) (F_X3_take_L82 r_kinds r_firsts r_seconds (12 + 1) 0 t_kinds t_firsts t_seconds) fun u_4 => (r_radius, r_skin, r_filling, r_water, r_ends, r_thin, r_chance, r_bentFace, r_bentBy, r_doings, u_4.1, u_4.2.1, u_4.2.2)
set_option maxHeartbeats 4000000 in
set_option maxRecDepth 100000 in
theorem m_X3_take (l : Launch) (g : x_G) (tA tA_kinds tA_firsts tA_seconds rA rA_kinds rA_firsts rA_seconds : Nat) (t_radius : Int32) (t_skin : Int32) (t_filling : Int32) (t_water : Int32) (t_ends : Int32) (t_thin : Int32) (t_chance : Int32) (t_bentFace : Int32) (t_bentBy : Int32) (t_doings : Nat) (t_kinds : Nat → Int32) (t_firsts : Nat → Int32) (t_seconds : Nat → Int32) (r_radius : Int32) (r_skin : Int32) (r_filling : Int32) (r_water : Int32) (r_ends : Int32) (r_thin : Int32) (r_chance : Int32) (r_bentFace : Int32) (r_bentBy : Int32) (r_doings : Nat) (r_kinds : Nat → Int32) (r_firsts : Nat → Int32) (r_seconds : Nat → Int32) : x_MetV l yX3_take wX3_take rX3_take g [.ref tA, .ref rA] [(tA, .inr (3, [.int t_radius, .int t_skin, .int t_filling, .int t_water, .int t_ends, .int t_thin, .int t_chance, .int t_bentFace, .int t_bentBy, .int (nI t_doings), .ref tA_kinds, .ref tA_firsts, .ref tA_seconds])), (tA_kinds, .inl (g.2.1 0, 12, .inl t_kinds)), (tA_firsts, .inl (g.2.1 0, 12, .inl t_firsts)), (tA_seconds, .inl (g.2.1 0, 12, .inl t_seconds)), (rA, .inr (3, [.int r_radius, .int r_skin, .int r_filling, .int r_water, .int r_ends, .int r_thin, .int r_chance, .int r_bentFace, .int r_bentBy, .int (nI r_doings), .ref rA_kinds, .ref rA_firsts, .ref rA_seconds])), (rA_kinds, .inl (g.2.1 0, 12, .inl r_kinds)), (rA_firsts, .inl (g.2.1 0, 12, .inl r_firsts)), (rA_seconds, .inl (g.2.1 0, 12, .inl r_seconds))] (fun u : Int32 × Int32 × Int32 × Int32 × Int32 × Int32 × Int32 × Int32 × Int32 × Nat × (Nat → Int32) × (Nat → Int32) × (Nat → Int32) => (u = F_X3_take t_kinds t_firsts t_seconds r_radius r_skin r_filling r_water r_ends r_thin r_chance r_bentFace r_bentBy r_doings r_kinds r_firsts r_seconds) ∧ (u.2.2.2.2.2.2.2.2.2.1 = r_doings) ∧ (∀ q : Nat, q < 12 → u.2.2.2.2.2.2.2.2.2.2.2.2 q = r_seconds q)) (fun u => [(tA, .inr (3, [.int u.1, .int u.2.1, .int u.2.2.1, .int u.2.2.2.1, .int u.2.2.2.2.1, .int u.2.2.2.2.2.1, .int u.2.2.2.2.2.2.1, .int u.2.2.2.2.2.2.2.1, .int u.2.2.2.2.2.2.2.2.1, .int (nI u.2.2.2.2.2.2.2.2.2.1), .ref tA_kinds, .ref tA_firsts, .ref tA_seconds])), (tA_kinds, .inl (g.2.1 0, 12, .inl u.2.2.2.2.2.2.2.2.2.2.1)), (tA_firsts, .inl (g.2.1 0, 12, .inl u.2.2.2.2.2.2.2.2.2.2.2.1)), (tA_seconds, .inl (g.2.1 0, 12, .inl u.2.2.2.2.2.2.2.2.2.2.2.2)), (rA, .inr (3, [.int r_radius, .int r_skin, .int r_filling, .int r_water, .int r_ends, .int r_thin, .int r_chance, .int r_bentFace, .int r_bentBy, .int (nI r_doings), .ref rA_kinds, .ref rA_firsts, .ref rA_seconds])), (rA_kinds, .inl (g.2.1 0, 12, .inl r_kinds)), (rA_firsts, .inl (g.2.1 0, 12, .inl r_firsts)), (rA_seconds, .inl (g.2.1 0, 12, .inl r_seconds))]) := by
  refine x_startV (cc := cX3_take) (maxL := 3) (by decide) rfl (Nat.le_of_ble_eq_true rfl) ?_
  intro p e s m args below meth c Q A ls H locs hx hb hml hown hts hK hX hP hD hS hA hl RET
  have hown : s.vm.findClass RX3 = some m.cls := hown
  have hl : lv_has ls 3 [(0, .ref tA), (1, .ref rA)] := hl
  obtain ⟨o_0, hO⟩ : ∃ z, z = F_X3_take t_kinds t_firsts t_seconds r_radius r_skin r_filling r_water r_ends r_thin r_chance r_bentFace r_bentBy r_doings r_kinds r_firsts r_seconds := ⟨_, rfl⟩
  have E := hO
  rw [F_X3_take.eq_1] at E
  refine lv_aload_n hx hb dX3_take_0 rfl (lv_at hl 0 rfl) ?_
  refine lv_aload_n hx hb dX3_take_1 rfl (lv_at hl 1 rfl) ?_
  refine va_get (ci := 3) (v := .int r_radius) (C := RX3) (T := TX3) (N := 13) hx hb hts inlX3 hown hK.1 hP 4 rfl rfl 0 (by decide) (hts _ kw_50) (fun _ h9 => h9) rfl dX3_take_2 ?_
  refine va_put (ci := 3) (v := .int r_radius) (ty := .int) (C := RX3) (T := TX3) (N := 13) hx hb hts inlX3 tyX3 tyX3_ok nmX3 hown hK.1 hP hD hS 0 rfl rfl 0 (by decide) (hts _ kw_50) (fun _ h9 => h9) rfl (tyX3_ok 0 (by decide)) rfl rfl (Nat.le_of_ble_eq_true rfl) dX3_take_5 (fun H locs hP hD hS => ?_)
  have hP : va_P g.1 vwCl [(tA, .inr (3, [.int r_radius, .int t_skin, .int t_filling, .int t_water, .int t_ends, .int t_thin, .int t_chance, .int t_bentFace, .int t_bentBy, .int (nI t_doings), .ref tA_kinds, .ref tA_firsts, .ref tA_seconds])), (tA_kinds, .inl (g.2.1 0, 12, .inl t_kinds)), (tA_firsts, .inl (g.2.1 0, 12, .inl t_firsts)), (tA_seconds, .inl (g.2.1 0, 12, .inl t_seconds)), (rA, .inr (3, [.int r_radius, .int r_skin, .int r_filling, .int r_water, .int r_ends, .int r_thin, .int r_chance, .int r_bentFace, .int r_bentBy, .int (nI r_doings), .ref rA_kinds, .ref rA_firsts, .ref rA_seconds])), (rA_kinds, .inl (g.2.1 0, 12, .inl r_kinds)), (rA_firsts, .inl (g.2.1 0, 12, .inl r_firsts)), (rA_seconds, .inl (g.2.1 0, 12, .inl r_seconds))] H := hP
  have hD : va_D A [(tA, .inr (3, [.int r_radius, .int t_skin, .int t_filling, .int t_water, .int t_ends, .int t_thin, .int t_chance, .int t_bentFace, .int t_bentBy, .int (nI t_doings), .ref tA_kinds, .ref tA_firsts, .ref tA_seconds])), (tA_kinds, .inl (g.2.1 0, 12, .inl t_kinds)), (tA_firsts, .inl (g.2.1 0, 12, .inl t_firsts)), (tA_seconds, .inl (g.2.1 0, 12, .inl t_seconds)), (rA, .inr (3, [.int r_radius, .int r_skin, .int r_filling, .int r_water, .int r_ends, .int r_thin, .int r_chance, .int r_bentFace, .int r_bentBy, .int (nI r_doings), .ref rA_kinds, .ref rA_firsts, .ref rA_seconds])), (rA_kinds, .inl (g.2.1 0, 12, .inl r_kinds)), (rA_firsts, .inl (g.2.1 0, 12, .inl r_firsts)), (rA_seconds, .inl (g.2.1 0, 12, .inl r_seconds))] := hD
  refine lv_aload_n hx hb dX3_take_8 rfl (lv_at hl 0 rfl) ?_
  refine lv_aload_n hx hb dX3_take_9 rfl (lv_at hl 1 rfl) ?_
  refine va_get (ci := 3) (v := .int r_skin) (C := RX3) (T := TX3) (N := 13) hx hb hts inlX3 hown hK.1 hP 4 rfl rfl 1 (by decide) (hts _ kw_51) (fun _ h9 => h9) rfl dX3_take_10 ?_
  refine va_put (ci := 3) (v := .int r_skin) (ty := .int) (C := RX3) (T := TX3) (N := 13) hx hb hts inlX3 tyX3 tyX3_ok nmX3 hown hK.1 hP hD hS 0 rfl rfl 1 (by decide) (hts _ kw_51) (fun _ h9 => h9) rfl (tyX3_ok 1 (by decide)) rfl rfl (Nat.le_of_ble_eq_true rfl) dX3_take_13 (fun H locs hP hD hS => ?_)
  have hP : va_P g.1 vwCl [(tA, .inr (3, [.int r_radius, .int r_skin, .int t_filling, .int t_water, .int t_ends, .int t_thin, .int t_chance, .int t_bentFace, .int t_bentBy, .int (nI t_doings), .ref tA_kinds, .ref tA_firsts, .ref tA_seconds])), (tA_kinds, .inl (g.2.1 0, 12, .inl t_kinds)), (tA_firsts, .inl (g.2.1 0, 12, .inl t_firsts)), (tA_seconds, .inl (g.2.1 0, 12, .inl t_seconds)), (rA, .inr (3, [.int r_radius, .int r_skin, .int r_filling, .int r_water, .int r_ends, .int r_thin, .int r_chance, .int r_bentFace, .int r_bentBy, .int (nI r_doings), .ref rA_kinds, .ref rA_firsts, .ref rA_seconds])), (rA_kinds, .inl (g.2.1 0, 12, .inl r_kinds)), (rA_firsts, .inl (g.2.1 0, 12, .inl r_firsts)), (rA_seconds, .inl (g.2.1 0, 12, .inl r_seconds))] H := hP
  have hD : va_D A [(tA, .inr (3, [.int r_radius, .int r_skin, .int t_filling, .int t_water, .int t_ends, .int t_thin, .int t_chance, .int t_bentFace, .int t_bentBy, .int (nI t_doings), .ref tA_kinds, .ref tA_firsts, .ref tA_seconds])), (tA_kinds, .inl (g.2.1 0, 12, .inl t_kinds)), (tA_firsts, .inl (g.2.1 0, 12, .inl t_firsts)), (tA_seconds, .inl (g.2.1 0, 12, .inl t_seconds)), (rA, .inr (3, [.int r_radius, .int r_skin, .int r_filling, .int r_water, .int r_ends, .int r_thin, .int r_chance, .int r_bentFace, .int r_bentBy, .int (nI r_doings), .ref rA_kinds, .ref rA_firsts, .ref rA_seconds])), (rA_kinds, .inl (g.2.1 0, 12, .inl r_kinds)), (rA_firsts, .inl (g.2.1 0, 12, .inl r_firsts)), (rA_seconds, .inl (g.2.1 0, 12, .inl r_seconds))] := hD
  refine lv_aload_n hx hb dX3_take_16 rfl (lv_at hl 0 rfl) ?_
  refine lv_aload_n hx hb dX3_take_17 rfl (lv_at hl 1 rfl) ?_
  refine va_get (ci := 3) (v := .int r_filling) (C := RX3) (T := TX3) (N := 13) hx hb hts inlX3 hown hK.1 hP 4 rfl rfl 2 (by decide) (hts _ kw_52) (fun _ h9 => h9) rfl dX3_take_18 ?_
  refine va_put (ci := 3) (v := .int r_filling) (ty := .int) (C := RX3) (T := TX3) (N := 13) hx hb hts inlX3 tyX3 tyX3_ok nmX3 hown hK.1 hP hD hS 0 rfl rfl 2 (by decide) (hts _ kw_52) (fun _ h9 => h9) rfl (tyX3_ok 2 (by decide)) rfl rfl (Nat.le_of_ble_eq_true rfl) dX3_take_21 (fun H locs hP hD hS => ?_)
  have hP : va_P g.1 vwCl [(tA, .inr (3, [.int r_radius, .int r_skin, .int r_filling, .int t_water, .int t_ends, .int t_thin, .int t_chance, .int t_bentFace, .int t_bentBy, .int (nI t_doings), .ref tA_kinds, .ref tA_firsts, .ref tA_seconds])), (tA_kinds, .inl (g.2.1 0, 12, .inl t_kinds)), (tA_firsts, .inl (g.2.1 0, 12, .inl t_firsts)), (tA_seconds, .inl (g.2.1 0, 12, .inl t_seconds)), (rA, .inr (3, [.int r_radius, .int r_skin, .int r_filling, .int r_water, .int r_ends, .int r_thin, .int r_chance, .int r_bentFace, .int r_bentBy, .int (nI r_doings), .ref rA_kinds, .ref rA_firsts, .ref rA_seconds])), (rA_kinds, .inl (g.2.1 0, 12, .inl r_kinds)), (rA_firsts, .inl (g.2.1 0, 12, .inl r_firsts)), (rA_seconds, .inl (g.2.1 0, 12, .inl r_seconds))] H := hP
  have hD : va_D A [(tA, .inr (3, [.int r_radius, .int r_skin, .int r_filling, .int t_water, .int t_ends, .int t_thin, .int t_chance, .int t_bentFace, .int t_bentBy, .int (nI t_doings), .ref tA_kinds, .ref tA_firsts, .ref tA_seconds])), (tA_kinds, .inl (g.2.1 0, 12, .inl t_kinds)), (tA_firsts, .inl (g.2.1 0, 12, .inl t_firsts)), (tA_seconds, .inl (g.2.1 0, 12, .inl t_seconds)), (rA, .inr (3, [.int r_radius, .int r_skin, .int r_filling, .int r_water, .int r_ends, .int r_thin, .int r_chance, .int r_bentFace, .int r_bentBy, .int (nI r_doings), .ref rA_kinds, .ref rA_firsts, .ref rA_seconds])), (rA_kinds, .inl (g.2.1 0, 12, .inl r_kinds)), (rA_firsts, .inl (g.2.1 0, 12, .inl r_firsts)), (rA_seconds, .inl (g.2.1 0, 12, .inl r_seconds))] := hD
  refine lv_aload_n hx hb dX3_take_24 rfl (lv_at hl 0 rfl) ?_
  refine lv_aload_n hx hb dX3_take_25 rfl (lv_at hl 1 rfl) ?_
  refine va_get (ci := 3) (v := .int r_water) (C := RX3) (T := TX3) (N := 13) hx hb hts inlX3 hown hK.1 hP 4 rfl rfl 3 (by decide) (hts _ kw_53) (fun _ h9 => h9) rfl dX3_take_26 ?_
  refine va_put (ci := 3) (v := .int r_water) (ty := .int) (C := RX3) (T := TX3) (N := 13) hx hb hts inlX3 tyX3 tyX3_ok nmX3 hown hK.1 hP hD hS 0 rfl rfl 3 (by decide) (hts _ kw_53) (fun _ h9 => h9) rfl (tyX3_ok 3 (by decide)) rfl rfl (Nat.le_of_ble_eq_true rfl) dX3_take_29 (fun H locs hP hD hS => ?_)
  have hP : va_P g.1 vwCl [(tA, .inr (3, [.int r_radius, .int r_skin, .int r_filling, .int r_water, .int t_ends, .int t_thin, .int t_chance, .int t_bentFace, .int t_bentBy, .int (nI t_doings), .ref tA_kinds, .ref tA_firsts, .ref tA_seconds])), (tA_kinds, .inl (g.2.1 0, 12, .inl t_kinds)), (tA_firsts, .inl (g.2.1 0, 12, .inl t_firsts)), (tA_seconds, .inl (g.2.1 0, 12, .inl t_seconds)), (rA, .inr (3, [.int r_radius, .int r_skin, .int r_filling, .int r_water, .int r_ends, .int r_thin, .int r_chance, .int r_bentFace, .int r_bentBy, .int (nI r_doings), .ref rA_kinds, .ref rA_firsts, .ref rA_seconds])), (rA_kinds, .inl (g.2.1 0, 12, .inl r_kinds)), (rA_firsts, .inl (g.2.1 0, 12, .inl r_firsts)), (rA_seconds, .inl (g.2.1 0, 12, .inl r_seconds))] H := hP
  have hD : va_D A [(tA, .inr (3, [.int r_radius, .int r_skin, .int r_filling, .int r_water, .int t_ends, .int t_thin, .int t_chance, .int t_bentFace, .int t_bentBy, .int (nI t_doings), .ref tA_kinds, .ref tA_firsts, .ref tA_seconds])), (tA_kinds, .inl (g.2.1 0, 12, .inl t_kinds)), (tA_firsts, .inl (g.2.1 0, 12, .inl t_firsts)), (tA_seconds, .inl (g.2.1 0, 12, .inl t_seconds)), (rA, .inr (3, [.int r_radius, .int r_skin, .int r_filling, .int r_water, .int r_ends, .int r_thin, .int r_chance, .int r_bentFace, .int r_bentBy, .int (nI r_doings), .ref rA_kinds, .ref rA_firsts, .ref rA_seconds])), (rA_kinds, .inl (g.2.1 0, 12, .inl r_kinds)), (rA_firsts, .inl (g.2.1 0, 12, .inl r_firsts)), (rA_seconds, .inl (g.2.1 0, 12, .inl r_seconds))] := hD
  refine lv_aload_n hx hb dX3_take_32 rfl (lv_at hl 0 rfl) ?_
  refine lv_aload_n hx hb dX3_take_33 rfl (lv_at hl 1 rfl) ?_
  refine va_get (ci := 3) (v := .int r_ends) (C := RX3) (T := TX3) (N := 13) hx hb hts inlX3 hown hK.1 hP 4 rfl rfl 4 (by decide) (hts _ kw_54) (fun _ h9 => h9) rfl dX3_take_34 ?_
  refine va_put (ci := 3) (v := .int r_ends) (ty := .int) (C := RX3) (T := TX3) (N := 13) hx hb hts inlX3 tyX3 tyX3_ok nmX3 hown hK.1 hP hD hS 0 rfl rfl 4 (by decide) (hts _ kw_54) (fun _ h9 => h9) rfl (tyX3_ok 4 (by decide)) rfl rfl (Nat.le_of_ble_eq_true rfl) dX3_take_37 (fun H locs hP hD hS => ?_)
  have hP : va_P g.1 vwCl [(tA, .inr (3, [.int r_radius, .int r_skin, .int r_filling, .int r_water, .int r_ends, .int t_thin, .int t_chance, .int t_bentFace, .int t_bentBy, .int (nI t_doings), .ref tA_kinds, .ref tA_firsts, .ref tA_seconds])), (tA_kinds, .inl (g.2.1 0, 12, .inl t_kinds)), (tA_firsts, .inl (g.2.1 0, 12, .inl t_firsts)), (tA_seconds, .inl (g.2.1 0, 12, .inl t_seconds)), (rA, .inr (3, [.int r_radius, .int r_skin, .int r_filling, .int r_water, .int r_ends, .int r_thin, .int r_chance, .int r_bentFace, .int r_bentBy, .int (nI r_doings), .ref rA_kinds, .ref rA_firsts, .ref rA_seconds])), (rA_kinds, .inl (g.2.1 0, 12, .inl r_kinds)), (rA_firsts, .inl (g.2.1 0, 12, .inl r_firsts)), (rA_seconds, .inl (g.2.1 0, 12, .inl r_seconds))] H := hP
  have hD : va_D A [(tA, .inr (3, [.int r_radius, .int r_skin, .int r_filling, .int r_water, .int r_ends, .int t_thin, .int t_chance, .int t_bentFace, .int t_bentBy, .int (nI t_doings), .ref tA_kinds, .ref tA_firsts, .ref tA_seconds])), (tA_kinds, .inl (g.2.1 0, 12, .inl t_kinds)), (tA_firsts, .inl (g.2.1 0, 12, .inl t_firsts)), (tA_seconds, .inl (g.2.1 0, 12, .inl t_seconds)), (rA, .inr (3, [.int r_radius, .int r_skin, .int r_filling, .int r_water, .int r_ends, .int r_thin, .int r_chance, .int r_bentFace, .int r_bentBy, .int (nI r_doings), .ref rA_kinds, .ref rA_firsts, .ref rA_seconds])), (rA_kinds, .inl (g.2.1 0, 12, .inl r_kinds)), (rA_firsts, .inl (g.2.1 0, 12, .inl r_firsts)), (rA_seconds, .inl (g.2.1 0, 12, .inl r_seconds))] := hD
  refine lv_aload_n hx hb dX3_take_40 rfl (lv_at hl 0 rfl) ?_
  refine lv_aload_n hx hb dX3_take_41 rfl (lv_at hl 1 rfl) ?_
  refine va_get (ci := 3) (v := .int r_thin) (C := RX3) (T := TX3) (N := 13) hx hb hts inlX3 hown hK.1 hP 4 rfl rfl 5 (by decide) (hts _ kw_55) (fun _ h9 => h9) rfl dX3_take_42 ?_
  refine va_put (ci := 3) (v := .int r_thin) (ty := .int) (C := RX3) (T := TX3) (N := 13) hx hb hts inlX3 tyX3 tyX3_ok nmX3 hown hK.1 hP hD hS 0 rfl rfl 5 (by decide) (hts _ kw_55) (fun _ h9 => h9) rfl (tyX3_ok 5 (by decide)) rfl rfl (Nat.le_of_ble_eq_true rfl) dX3_take_45 (fun H locs hP hD hS => ?_)
  have hP : va_P g.1 vwCl [(tA, .inr (3, [.int r_radius, .int r_skin, .int r_filling, .int r_water, .int r_ends, .int r_thin, .int t_chance, .int t_bentFace, .int t_bentBy, .int (nI t_doings), .ref tA_kinds, .ref tA_firsts, .ref tA_seconds])), (tA_kinds, .inl (g.2.1 0, 12, .inl t_kinds)), (tA_firsts, .inl (g.2.1 0, 12, .inl t_firsts)), (tA_seconds, .inl (g.2.1 0, 12, .inl t_seconds)), (rA, .inr (3, [.int r_radius, .int r_skin, .int r_filling, .int r_water, .int r_ends, .int r_thin, .int r_chance, .int r_bentFace, .int r_bentBy, .int (nI r_doings), .ref rA_kinds, .ref rA_firsts, .ref rA_seconds])), (rA_kinds, .inl (g.2.1 0, 12, .inl r_kinds)), (rA_firsts, .inl (g.2.1 0, 12, .inl r_firsts)), (rA_seconds, .inl (g.2.1 0, 12, .inl r_seconds))] H := hP
  have hD : va_D A [(tA, .inr (3, [.int r_radius, .int r_skin, .int r_filling, .int r_water, .int r_ends, .int r_thin, .int t_chance, .int t_bentFace, .int t_bentBy, .int (nI t_doings), .ref tA_kinds, .ref tA_firsts, .ref tA_seconds])), (tA_kinds, .inl (g.2.1 0, 12, .inl t_kinds)), (tA_firsts, .inl (g.2.1 0, 12, .inl t_firsts)), (tA_seconds, .inl (g.2.1 0, 12, .inl t_seconds)), (rA, .inr (3, [.int r_radius, .int r_skin, .int r_filling, .int r_water, .int r_ends, .int r_thin, .int r_chance, .int r_bentFace, .int r_bentBy, .int (nI r_doings), .ref rA_kinds, .ref rA_firsts, .ref rA_seconds])), (rA_kinds, .inl (g.2.1 0, 12, .inl r_kinds)), (rA_firsts, .inl (g.2.1 0, 12, .inl r_firsts)), (rA_seconds, .inl (g.2.1 0, 12, .inl r_seconds))] := hD
  refine lv_aload_n hx hb dX3_take_48 rfl (lv_at hl 0 rfl) ?_
  refine lv_aload_n hx hb dX3_take_49 rfl (lv_at hl 1 rfl) ?_
  refine va_get (ci := 3) (v := .int r_chance) (C := RX3) (T := TX3) (N := 13) hx hb hts inlX3 hown hK.1 hP 4 rfl rfl 6 (by decide) (hts _ kw_56) (fun _ h9 => h9) rfl dX3_take_50 ?_
  refine va_put (ci := 3) (v := .int r_chance) (ty := .int) (C := RX3) (T := TX3) (N := 13) hx hb hts inlX3 tyX3 tyX3_ok nmX3 hown hK.1 hP hD hS 0 rfl rfl 6 (by decide) (hts _ kw_56) (fun _ h9 => h9) rfl (tyX3_ok 6 (by decide)) rfl rfl (Nat.le_of_ble_eq_true rfl) dX3_take_53 (fun H locs hP hD hS => ?_)
  have hP : va_P g.1 vwCl [(tA, .inr (3, [.int r_radius, .int r_skin, .int r_filling, .int r_water, .int r_ends, .int r_thin, .int r_chance, .int t_bentFace, .int t_bentBy, .int (nI t_doings), .ref tA_kinds, .ref tA_firsts, .ref tA_seconds])), (tA_kinds, .inl (g.2.1 0, 12, .inl t_kinds)), (tA_firsts, .inl (g.2.1 0, 12, .inl t_firsts)), (tA_seconds, .inl (g.2.1 0, 12, .inl t_seconds)), (rA, .inr (3, [.int r_radius, .int r_skin, .int r_filling, .int r_water, .int r_ends, .int r_thin, .int r_chance, .int r_bentFace, .int r_bentBy, .int (nI r_doings), .ref rA_kinds, .ref rA_firsts, .ref rA_seconds])), (rA_kinds, .inl (g.2.1 0, 12, .inl r_kinds)), (rA_firsts, .inl (g.2.1 0, 12, .inl r_firsts)), (rA_seconds, .inl (g.2.1 0, 12, .inl r_seconds))] H := hP
  have hD : va_D A [(tA, .inr (3, [.int r_radius, .int r_skin, .int r_filling, .int r_water, .int r_ends, .int r_thin, .int r_chance, .int t_bentFace, .int t_bentBy, .int (nI t_doings), .ref tA_kinds, .ref tA_firsts, .ref tA_seconds])), (tA_kinds, .inl (g.2.1 0, 12, .inl t_kinds)), (tA_firsts, .inl (g.2.1 0, 12, .inl t_firsts)), (tA_seconds, .inl (g.2.1 0, 12, .inl t_seconds)), (rA, .inr (3, [.int r_radius, .int r_skin, .int r_filling, .int r_water, .int r_ends, .int r_thin, .int r_chance, .int r_bentFace, .int r_bentBy, .int (nI r_doings), .ref rA_kinds, .ref rA_firsts, .ref rA_seconds])), (rA_kinds, .inl (g.2.1 0, 12, .inl r_kinds)), (rA_firsts, .inl (g.2.1 0, 12, .inl r_firsts)), (rA_seconds, .inl (g.2.1 0, 12, .inl r_seconds))] := hD
  refine lv_aload_n hx hb dX3_take_56 rfl (lv_at hl 0 rfl) ?_
  refine lv_aload_n hx hb dX3_take_57 rfl (lv_at hl 1 rfl) ?_
  refine va_get (ci := 3) (v := .int r_bentFace) (C := RX3) (T := TX3) (N := 13) hx hb hts inlX3 hown hK.1 hP 4 rfl rfl 7 (by decide) (hts _ kw_57) (fun _ h9 => h9) rfl dX3_take_58 ?_
  refine va_put (ci := 3) (v := .int r_bentFace) (ty := .int) (C := RX3) (T := TX3) (N := 13) hx hb hts inlX3 tyX3 tyX3_ok nmX3 hown hK.1 hP hD hS 0 rfl rfl 7 (by decide) (hts _ kw_57) (fun _ h9 => h9) rfl (tyX3_ok 7 (by decide)) rfl rfl (Nat.le_of_ble_eq_true rfl) dX3_take_61 (fun H locs hP hD hS => ?_)
  have hP : va_P g.1 vwCl [(tA, .inr (3, [.int r_radius, .int r_skin, .int r_filling, .int r_water, .int r_ends, .int r_thin, .int r_chance, .int r_bentFace, .int t_bentBy, .int (nI t_doings), .ref tA_kinds, .ref tA_firsts, .ref tA_seconds])), (tA_kinds, .inl (g.2.1 0, 12, .inl t_kinds)), (tA_firsts, .inl (g.2.1 0, 12, .inl t_firsts)), (tA_seconds, .inl (g.2.1 0, 12, .inl t_seconds)), (rA, .inr (3, [.int r_radius, .int r_skin, .int r_filling, .int r_water, .int r_ends, .int r_thin, .int r_chance, .int r_bentFace, .int r_bentBy, .int (nI r_doings), .ref rA_kinds, .ref rA_firsts, .ref rA_seconds])), (rA_kinds, .inl (g.2.1 0, 12, .inl r_kinds)), (rA_firsts, .inl (g.2.1 0, 12, .inl r_firsts)), (rA_seconds, .inl (g.2.1 0, 12, .inl r_seconds))] H := hP
  have hD : va_D A [(tA, .inr (3, [.int r_radius, .int r_skin, .int r_filling, .int r_water, .int r_ends, .int r_thin, .int r_chance, .int r_bentFace, .int t_bentBy, .int (nI t_doings), .ref tA_kinds, .ref tA_firsts, .ref tA_seconds])), (tA_kinds, .inl (g.2.1 0, 12, .inl t_kinds)), (tA_firsts, .inl (g.2.1 0, 12, .inl t_firsts)), (tA_seconds, .inl (g.2.1 0, 12, .inl t_seconds)), (rA, .inr (3, [.int r_radius, .int r_skin, .int r_filling, .int r_water, .int r_ends, .int r_thin, .int r_chance, .int r_bentFace, .int r_bentBy, .int (nI r_doings), .ref rA_kinds, .ref rA_firsts, .ref rA_seconds])), (rA_kinds, .inl (g.2.1 0, 12, .inl r_kinds)), (rA_firsts, .inl (g.2.1 0, 12, .inl r_firsts)), (rA_seconds, .inl (g.2.1 0, 12, .inl r_seconds))] := hD
  refine lv_aload_n hx hb dX3_take_64 rfl (lv_at hl 0 rfl) ?_
  refine lv_aload_n hx hb dX3_take_65 rfl (lv_at hl 1 rfl) ?_
  refine va_get (ci := 3) (v := .int r_bentBy) (C := RX3) (T := TX3) (N := 13) hx hb hts inlX3 hown hK.1 hP 4 rfl rfl 8 (by decide) (hts _ kw_58) (fun _ h9 => h9) rfl dX3_take_66 ?_
  refine va_put (ci := 3) (v := .int r_bentBy) (ty := .int) (C := RX3) (T := TX3) (N := 13) hx hb hts inlX3 tyX3 tyX3_ok nmX3 hown hK.1 hP hD hS 0 rfl rfl 8 (by decide) (hts _ kw_58) (fun _ h9 => h9) rfl (tyX3_ok 8 (by decide)) rfl rfl (Nat.le_of_ble_eq_true rfl) dX3_take_69 (fun H locs hP hD hS => ?_)
  have hP : va_P g.1 vwCl [(tA, .inr (3, [.int r_radius, .int r_skin, .int r_filling, .int r_water, .int r_ends, .int r_thin, .int r_chance, .int r_bentFace, .int r_bentBy, .int (nI t_doings), .ref tA_kinds, .ref tA_firsts, .ref tA_seconds])), (tA_kinds, .inl (g.2.1 0, 12, .inl t_kinds)), (tA_firsts, .inl (g.2.1 0, 12, .inl t_firsts)), (tA_seconds, .inl (g.2.1 0, 12, .inl t_seconds)), (rA, .inr (3, [.int r_radius, .int r_skin, .int r_filling, .int r_water, .int r_ends, .int r_thin, .int r_chance, .int r_bentFace, .int r_bentBy, .int (nI r_doings), .ref rA_kinds, .ref rA_firsts, .ref rA_seconds])), (rA_kinds, .inl (g.2.1 0, 12, .inl r_kinds)), (rA_firsts, .inl (g.2.1 0, 12, .inl r_firsts)), (rA_seconds, .inl (g.2.1 0, 12, .inl r_seconds))] H := hP
  have hD : va_D A [(tA, .inr (3, [.int r_radius, .int r_skin, .int r_filling, .int r_water, .int r_ends, .int r_thin, .int r_chance, .int r_bentFace, .int r_bentBy, .int (nI t_doings), .ref tA_kinds, .ref tA_firsts, .ref tA_seconds])), (tA_kinds, .inl (g.2.1 0, 12, .inl t_kinds)), (tA_firsts, .inl (g.2.1 0, 12, .inl t_firsts)), (tA_seconds, .inl (g.2.1 0, 12, .inl t_seconds)), (rA, .inr (3, [.int r_radius, .int r_skin, .int r_filling, .int r_water, .int r_ends, .int r_thin, .int r_chance, .int r_bentFace, .int r_bentBy, .int (nI r_doings), .ref rA_kinds, .ref rA_firsts, .ref rA_seconds])), (rA_kinds, .inl (g.2.1 0, 12, .inl r_kinds)), (rA_firsts, .inl (g.2.1 0, 12, .inl r_firsts)), (rA_seconds, .inl (g.2.1 0, 12, .inl r_seconds))] := hD
  refine lv_aload_n hx hb dX3_take_72 rfl (lv_at hl 0 rfl) ?_
  refine lv_aload_n hx hb dX3_take_73 rfl (lv_at hl 1 rfl) ?_
  refine va_get (ci := 3) (v := .int (nI r_doings)) (C := RX3) (T := TX3) (N := 13) hx hb hts inlX3 hown hK.1 hP 4 rfl rfl 9 (by decide) (hts _ kw_59) (fun _ h9 => h9) rfl dX3_take_74 ?_
  refine va_put (ci := 3) (v := .int (nI r_doings)) (ty := .int) (C := RX3) (T := TX3) (N := 13) hx hb hts inlX3 tyX3 tyX3_ok nmX3 hown hK.1 hP hD hS 0 rfl rfl 9 (by decide) (hts _ kw_59) (fun _ h9 => h9) rfl (tyX3_ok 9 (by decide)) rfl rfl (Nat.le_of_ble_eq_true rfl) dX3_take_77 (fun H locs hP hD hS => ?_)
  have hP : va_P g.1 vwCl [(tA, .inr (3, [.int r_radius, .int r_skin, .int r_filling, .int r_water, .int r_ends, .int r_thin, .int r_chance, .int r_bentFace, .int r_bentBy, .int (nI r_doings), .ref tA_kinds, .ref tA_firsts, .ref tA_seconds])), (tA_kinds, .inl (g.2.1 0, 12, .inl t_kinds)), (tA_firsts, .inl (g.2.1 0, 12, .inl t_firsts)), (tA_seconds, .inl (g.2.1 0, 12, .inl t_seconds)), (rA, .inr (3, [.int r_radius, .int r_skin, .int r_filling, .int r_water, .int r_ends, .int r_thin, .int r_chance, .int r_bentFace, .int r_bentBy, .int (nI r_doings), .ref rA_kinds, .ref rA_firsts, .ref rA_seconds])), (rA_kinds, .inl (g.2.1 0, 12, .inl r_kinds)), (rA_firsts, .inl (g.2.1 0, 12, .inl r_firsts)), (rA_seconds, .inl (g.2.1 0, 12, .inl r_seconds))] H := hP
  have hD : va_D A [(tA, .inr (3, [.int r_radius, .int r_skin, .int r_filling, .int r_water, .int r_ends, .int r_thin, .int r_chance, .int r_bentFace, .int r_bentBy, .int (nI r_doings), .ref tA_kinds, .ref tA_firsts, .ref tA_seconds])), (tA_kinds, .inl (g.2.1 0, 12, .inl t_kinds)), (tA_firsts, .inl (g.2.1 0, 12, .inl t_firsts)), (tA_seconds, .inl (g.2.1 0, 12, .inl t_seconds)), (rA, .inr (3, [.int r_radius, .int r_skin, .int r_filling, .int r_water, .int r_ends, .int r_thin, .int r_chance, .int r_bentFace, .int r_bentBy, .int (nI r_doings), .ref rA_kinds, .ref rA_firsts, .ref rA_seconds])), (rA_kinds, .inl (g.2.1 0, 12, .inl r_kinds)), (rA_firsts, .inl (g.2.1 0, 12, .inl r_firsts)), (rA_seconds, .inl (g.2.1 0, 12, .inl r_seconds))] := hD
  refine lv_iconst (v := 0) hx hb dX3_take_80 (by decide) ?_
  refine lv_istore_n (lv' := [(2, .int 0), (0, .ref tA), (1, .ref rA)]) hx hb dX3_take_81 rfl hl (by decide) rfl (fun ls hl => ?_)
  obtain ⟨o_4, E_4, E⟩ := x_nm_ex E
  have J_4 : ∀ (t_kinds_1 : Nat → Int32) (t_firsts_2 : Nat → Int32) (t_seconds_3 : Nat → Int32), o_4 = (t_kinds_1, t_firsts_2, t_seconds_3) → (∀ q : Nat, q < 12 → t_seconds_3 q = r_seconds q) → ∀ (H : Heap) (locs : List Loc) (ls : Array Slot), va_P g.1 vwCl [(tA, .inr (3, [.int r_radius, .int r_skin, .int r_filling, .int r_water, .int r_ends, .int r_thin, .int r_chance, .int r_bentFace, .int r_bentBy, .int (nI r_doings), .ref tA_kinds, .ref tA_firsts, .ref tA_seconds])), (tA_kinds, .inl (g.2.1 0, 12, .inl t_kinds_1)), (tA_firsts, .inl (g.2.1 0, 12, .inl t_firsts_2)), (tA_seconds, .inl (g.2.1 0, 12, .inl t_seconds_3)), (rA, .inr (3, [.int r_radius, .int r_skin, .int r_filling, .int r_water, .int r_ends, .int r_thin, .int r_chance, .int r_bentFace, .int r_bentBy, .int (nI r_doings), .ref rA_kinds, .ref rA_firsts, .ref rA_seconds])), (rA_kinds, .inl (g.2.1 0, 12, .inl r_kinds)), (rA_firsts, .inl (g.2.1 0, 12, .inl r_firsts)), (rA_seconds, .inl (g.2.1 0, 12, .inl r_seconds))] H → va_D A [(tA, .inr (3, [.int r_radius, .int r_skin, .int r_filling, .int r_water, .int r_ends, .int r_thin, .int r_chance, .int r_bentFace, .int r_bentBy, .int (nI r_doings), .ref tA_kinds, .ref tA_firsts, .ref tA_seconds])), (tA_kinds, .inl (g.2.1 0, 12, .inl t_kinds_1)), (tA_firsts, .inl (g.2.1 0, 12, .inl t_firsts_2)), (tA_seconds, .inl (g.2.1 0, 12, .inl t_seconds_3)), (rA, .inr (3, [.int r_radius, .int r_skin, .int r_filling, .int r_water, .int r_ends, .int r_thin, .int r_chance, .int r_bentFace, .int r_bentBy, .int (nI r_doings), .ref rA_kinds, .ref rA_firsts, .ref rA_seconds])), (rA_kinds, .inl (g.2.1 0, 12, .inl r_kinds)), (rA_firsts, .inl (g.2.1 0, 12, .inl r_firsts)), (rA_seconds, .inl (g.2.1 0, 12, .inl r_seconds))] → va_S A s.heap H locs → lv_has ls 3 [] → W p l e rX3_take s m args below meth c H locs 0 0 Q (F0 m 130 ls []) := by
    intro t_kinds_1 t_firsts_2 t_seconds_3 hE f_4_0 H locs ls hP hD hS hl
    try rw [hE] at E
    exact RET (r_radius, r_skin, r_filling, r_water, r_ends, r_thin, r_chance, r_bentFace, r_bentBy, r_doings, t_kinds_1, t_firsts_2, t_seconds_3) H locs _ _ ⟨E.symm.trans hO, (show r_doings = r_doings by first | omega | assumption | exact Or.inl rfl | exact Or.inr (by omega)), (show ∀ q : Nat, q < 12 → t_seconds_3 q = r_seconds q from by assumption)⟩ hP hD hS dX3_take_130
  have E := E_4
  have L_9 : ∀ (n_9 : Nat) (k2_5 : Nat) (t_kinds_6 : Nat → Int32) (t_firsts_7 : Nat → Int32) (t_seconds_8 : Nat → Int32), (k2_5 ≤ 12) → (∀ q : Nat, q < k2_5 → t_seconds_8 q = r_seconds q) → ((12 - k2_5) < n_9) → o_4 = F_X3_take_L82 r_kinds r_firsts r_seconds n_9 k2_5 t_kinds_6 t_firsts_7 t_seconds_8 → ∀ (H : Heap) (locs : List Loc) (ls : Array Slot), va_P g.1 vwCl [(tA, .inr (3, [.int r_radius, .int r_skin, .int r_filling, .int r_water, .int r_ends, .int r_thin, .int r_chance, .int r_bentFace, .int r_bentBy, .int (nI r_doings), .ref tA_kinds, .ref tA_firsts, .ref tA_seconds])), (tA_kinds, .inl (g.2.1 0, 12, .inl t_kinds_6)), (tA_firsts, .inl (g.2.1 0, 12, .inl t_firsts_7)), (tA_seconds, .inl (g.2.1 0, 12, .inl t_seconds_8)), (rA, .inr (3, [.int r_radius, .int r_skin, .int r_filling, .int r_water, .int r_ends, .int r_thin, .int r_chance, .int r_bentFace, .int r_bentBy, .int (nI r_doings), .ref rA_kinds, .ref rA_firsts, .ref rA_seconds])), (rA_kinds, .inl (g.2.1 0, 12, .inl r_kinds)), (rA_firsts, .inl (g.2.1 0, 12, .inl r_firsts)), (rA_seconds, .inl (g.2.1 0, 12, .inl r_seconds))] H → va_D A [(tA, .inr (3, [.int r_radius, .int r_skin, .int r_filling, .int r_water, .int r_ends, .int r_thin, .int r_chance, .int r_bentFace, .int r_bentBy, .int (nI r_doings), .ref tA_kinds, .ref tA_firsts, .ref tA_seconds])), (tA_kinds, .inl (g.2.1 0, 12, .inl t_kinds_6)), (tA_firsts, .inl (g.2.1 0, 12, .inl t_firsts_7)), (tA_seconds, .inl (g.2.1 0, 12, .inl t_seconds_8)), (rA, .inr (3, [.int r_radius, .int r_skin, .int r_filling, .int r_water, .int r_ends, .int r_thin, .int r_chance, .int r_bentFace, .int r_bentBy, .int (nI r_doings), .ref rA_kinds, .ref rA_firsts, .ref rA_seconds])), (rA_kinds, .inl (g.2.1 0, 12, .inl r_kinds)), (rA_firsts, .inl (g.2.1 0, 12, .inl r_firsts)), (rA_seconds, .inl (g.2.1 0, 12, .inl r_seconds))] → va_S A s.heap H locs → lv_has ls 3 [(0, .ref tA), (1, .ref rA), (2, .int (nI k2_5))] → W p l e rX3_take s m args below meth c H locs 0 0 Q (F0 m 82 ls []) := by
    intro n_9
    induction n_9 with
    | zero => intro k2_5 t_kinds_6 t_firsts_7 t_seconds_8 i_9_0 i_9_1 i_9_2; exact absurd i_9_2 (by omega)
    | succ n_9 ih_9 =>
      intro k2_5 t_kinds_6 t_firsts_7 t_seconds_8 i_9_0 i_9_1 i_9_2 E H locs ls hP hD hS hl
      rw [F_X3_take_L82.eq_2] at E
      refine lv_iload_n hx hb dX3_take_82 rfl (lv_at hl 2 rfl) ?_
      refine lv_bipush (v := 12) hx hb dX3_take_83 (by decide) ?_
      refine x_icmp_ge (a := k2_5) (b := 12) (tgt := 130) hx hb (by omega) (by omega) dX3_take_85 (by decide) (fun c_10 => ?_) (fun c_10 => ?_)
      · have E := x_pos E c_10
        exact J_4 t_kinds_6 t_firsts_7 t_seconds_8 E (fun q hq => (by assumption : ∀ q : Nat, q < k2_5 → t_seconds_8 q = r_seconds q) q (by omega)) H locs ls hP hD hS (lv_sub hl [] rfl)
      · have E := x_neg E c_10
        refine lv_aload_n hx hb dX3_take_88 rfl (lv_at hl 0 rfl) ?_
        refine va_get (ci := 3) (v := .ref tA_kinds) (C := RX3) (T := TX3) (N := 13) hx hb hts inlX3 hown hK.1 hP 0 rfl rfl 10 (by decide) (hts _ kw_43) (fun _ h9 => h9) rfl dX3_take_89 ?_
        refine lv_iload_n hx hb dX3_take_92 rfl (lv_at hl 2 rfl) ?_
        refine lv_aload_n hx hb dX3_take_93 rfl (lv_at hl 1 rfl) ?_
        refine va_get (ci := 3) (v := .ref rA_kinds) (C := RX3) (T := TX3) (N := 13) hx hb hts inlX3 hown hK.1 hP 4 rfl rfl 10 (by decide) (hts _ kw_43) (fun _ h9 => h9) rfl dX3_take_94 ?_
        refine lv_iload_n hx hb dX3_take_97 rfl (lv_at hl 2 rfl) ?_
        refine x_ialdN hx hb hK hP 5 k2_5 rfl (by omega) (by decide) dX3_take_98 ?_
        refine x_iastN hx hb hK hP hD hS 1 k2_5 rfl (by omega) (by decide) dX3_take_99 (fun t_kinds_11 H locs hf hP hD hS => ?_)
        have hP : va_P g.1 vwCl [(tA, .inr (3, [.int r_radius, .int r_skin, .int r_filling, .int r_water, .int r_ends, .int r_thin, .int r_chance, .int r_bentFace, .int r_bentBy, .int (nI r_doings), .ref tA_kinds, .ref tA_firsts, .ref tA_seconds])), (tA_kinds, .inl (g.2.1 0, 12, .inl t_kinds_11)), (tA_firsts, .inl (g.2.1 0, 12, .inl t_firsts_7)), (tA_seconds, .inl (g.2.1 0, 12, .inl t_seconds_8)), (rA, .inr (3, [.int r_radius, .int r_skin, .int r_filling, .int r_water, .int r_ends, .int r_thin, .int r_chance, .int r_bentFace, .int r_bentBy, .int (nI r_doings), .ref rA_kinds, .ref rA_firsts, .ref rA_seconds])), (rA_kinds, .inl (g.2.1 0, 12, .inl r_kinds)), (rA_firsts, .inl (g.2.1 0, 12, .inl r_firsts)), (rA_seconds, .inl (g.2.1 0, 12, .inl r_seconds))] H := hP
        have hD : va_D A [(tA, .inr (3, [.int r_radius, .int r_skin, .int r_filling, .int r_water, .int r_ends, .int r_thin, .int r_chance, .int r_bentFace, .int r_bentBy, .int (nI r_doings), .ref tA_kinds, .ref tA_firsts, .ref tA_seconds])), (tA_kinds, .inl (g.2.1 0, 12, .inl t_kinds_11)), (tA_firsts, .inl (g.2.1 0, 12, .inl t_firsts_7)), (tA_seconds, .inl (g.2.1 0, 12, .inl t_seconds_8)), (rA, .inr (3, [.int r_radius, .int r_skin, .int r_filling, .int r_water, .int r_ends, .int r_thin, .int r_chance, .int r_bentFace, .int r_bentBy, .int (nI r_doings), .ref rA_kinds, .ref rA_firsts, .ref rA_seconds])), (rA_kinds, .inl (g.2.1 0, 12, .inl r_kinds)), (rA_firsts, .inl (g.2.1 0, 12, .inl r_firsts)), (rA_seconds, .inl (g.2.1 0, 12, .inl r_seconds))] := hD
        have E := x_nm_eq E hf
        refine lv_aload_n hx hb dX3_take_100 rfl (lv_at hl 0 rfl) ?_
        refine va_get (ci := 3) (v := .ref tA_firsts) (C := RX3) (T := TX3) (N := 13) hx hb hts inlX3 hown hK.1 hP 0 rfl rfl 11 (by decide) (hts _ kw_44) (fun _ h9 => h9) rfl dX3_take_101 ?_
        refine lv_iload_n hx hb dX3_take_104 rfl (lv_at hl 2 rfl) ?_
        refine lv_aload_n hx hb dX3_take_105 rfl (lv_at hl 1 rfl) ?_
        refine va_get (ci := 3) (v := .ref rA_firsts) (C := RX3) (T := TX3) (N := 13) hx hb hts inlX3 hown hK.1 hP 4 rfl rfl 11 (by decide) (hts _ kw_44) (fun _ h9 => h9) rfl dX3_take_106 ?_
        refine lv_iload_n hx hb dX3_take_109 rfl (lv_at hl 2 rfl) ?_
        refine x_ialdN hx hb hK hP 6 k2_5 rfl (by omega) (by decide) dX3_take_110 ?_
        refine x_iastN hx hb hK hP hD hS 2 k2_5 rfl (by omega) (by decide) dX3_take_111 (fun t_firsts_12 H locs hf hP hD hS => ?_)
        have hP : va_P g.1 vwCl [(tA, .inr (3, [.int r_radius, .int r_skin, .int r_filling, .int r_water, .int r_ends, .int r_thin, .int r_chance, .int r_bentFace, .int r_bentBy, .int (nI r_doings), .ref tA_kinds, .ref tA_firsts, .ref tA_seconds])), (tA_kinds, .inl (g.2.1 0, 12, .inl t_kinds_11)), (tA_firsts, .inl (g.2.1 0, 12, .inl t_firsts_12)), (tA_seconds, .inl (g.2.1 0, 12, .inl t_seconds_8)), (rA, .inr (3, [.int r_radius, .int r_skin, .int r_filling, .int r_water, .int r_ends, .int r_thin, .int r_chance, .int r_bentFace, .int r_bentBy, .int (nI r_doings), .ref rA_kinds, .ref rA_firsts, .ref rA_seconds])), (rA_kinds, .inl (g.2.1 0, 12, .inl r_kinds)), (rA_firsts, .inl (g.2.1 0, 12, .inl r_firsts)), (rA_seconds, .inl (g.2.1 0, 12, .inl r_seconds))] H := hP
        have hD : va_D A [(tA, .inr (3, [.int r_radius, .int r_skin, .int r_filling, .int r_water, .int r_ends, .int r_thin, .int r_chance, .int r_bentFace, .int r_bentBy, .int (nI r_doings), .ref tA_kinds, .ref tA_firsts, .ref tA_seconds])), (tA_kinds, .inl (g.2.1 0, 12, .inl t_kinds_11)), (tA_firsts, .inl (g.2.1 0, 12, .inl t_firsts_12)), (tA_seconds, .inl (g.2.1 0, 12, .inl t_seconds_8)), (rA, .inr (3, [.int r_radius, .int r_skin, .int r_filling, .int r_water, .int r_ends, .int r_thin, .int r_chance, .int r_bentFace, .int r_bentBy, .int (nI r_doings), .ref rA_kinds, .ref rA_firsts, .ref rA_seconds])), (rA_kinds, .inl (g.2.1 0, 12, .inl r_kinds)), (rA_firsts, .inl (g.2.1 0, 12, .inl r_firsts)), (rA_seconds, .inl (g.2.1 0, 12, .inl r_seconds))] := hD
        have E := x_nm_eq E hf
        refine lv_aload_n hx hb dX3_take_112 rfl (lv_at hl 0 rfl) ?_
        refine va_get (ci := 3) (v := .ref tA_seconds) (C := RX3) (T := TX3) (N := 13) hx hb hts inlX3 hown hK.1 hP 0 rfl rfl 12 (by decide) (hts _ kw_45) (fun _ h9 => h9) rfl dX3_take_113 ?_
        refine lv_iload_n hx hb dX3_take_116 rfl (lv_at hl 2 rfl) ?_
        refine lv_aload_n hx hb dX3_take_117 rfl (lv_at hl 1 rfl) ?_
        refine va_get (ci := 3) (v := .ref rA_seconds) (C := RX3) (T := TX3) (N := 13) hx hb hts inlX3 hown hK.1 hP 4 rfl rfl 12 (by decide) (hts _ kw_45) (fun _ h9 => h9) rfl dX3_take_118 ?_
        refine lv_iload_n hx hb dX3_take_121 rfl (lv_at hl 2 rfl) ?_
        refine x_ialdN hx hb hK hP 7 k2_5 rfl (by omega) (by decide) dX3_take_122 ?_
        refine x_iastN hx hb hK hP hD hS 3 k2_5 rfl (by omega) (by decide) dX3_take_123 (fun t_seconds_13 H locs hf hP hD hS => ?_)
        have hP : va_P g.1 vwCl [(tA, .inr (3, [.int r_radius, .int r_skin, .int r_filling, .int r_water, .int r_ends, .int r_thin, .int r_chance, .int r_bentFace, .int r_bentBy, .int (nI r_doings), .ref tA_kinds, .ref tA_firsts, .ref tA_seconds])), (tA_kinds, .inl (g.2.1 0, 12, .inl t_kinds_11)), (tA_firsts, .inl (g.2.1 0, 12, .inl t_firsts_12)), (tA_seconds, .inl (g.2.1 0, 12, .inl t_seconds_13)), (rA, .inr (3, [.int r_radius, .int r_skin, .int r_filling, .int r_water, .int r_ends, .int r_thin, .int r_chance, .int r_bentFace, .int r_bentBy, .int (nI r_doings), .ref rA_kinds, .ref rA_firsts, .ref rA_seconds])), (rA_kinds, .inl (g.2.1 0, 12, .inl r_kinds)), (rA_firsts, .inl (g.2.1 0, 12, .inl r_firsts)), (rA_seconds, .inl (g.2.1 0, 12, .inl r_seconds))] H := hP
        have hD : va_D A [(tA, .inr (3, [.int r_radius, .int r_skin, .int r_filling, .int r_water, .int r_ends, .int r_thin, .int r_chance, .int r_bentFace, .int r_bentBy, .int (nI r_doings), .ref tA_kinds, .ref tA_firsts, .ref tA_seconds])), (tA_kinds, .inl (g.2.1 0, 12, .inl t_kinds_11)), (tA_firsts, .inl (g.2.1 0, 12, .inl t_firsts_12)), (tA_seconds, .inl (g.2.1 0, 12, .inl t_seconds_13)), (rA, .inr (3, [.int r_radius, .int r_skin, .int r_filling, .int r_water, .int r_ends, .int r_thin, .int r_chance, .int r_bentFace, .int r_bentBy, .int (nI r_doings), .ref rA_kinds, .ref rA_firsts, .ref rA_seconds])), (rA_kinds, .inl (g.2.1 0, 12, .inl r_kinds)), (rA_firsts, .inl (g.2.1 0, 12, .inl r_firsts)), (rA_seconds, .inl (g.2.1 0, 12, .inl r_seconds))] := hD
        have E := x_nm_eq E hf
        refine lv_iinc (v := nI (k2_5 + 1)) (lv' := [(2, .int (nI (k2_5 + 1))), (0, .ref tA), (1, .ref rA)]) hx hb dX3_take_124 hl (k := 2) rfl (nI_1 k2_5) (by decide) rfl (fun ls hl => ?_)
        refine lv_goto (tgt := 82) hx hb dX3_take_127 (by decide) ?_
        exact ih_9 (k2_5 + 1) t_kinds_11 t_firsts_12 t_seconds_13 (by first | omega | assumption | exact Eq.trans (by assumption) (by assumption)) (by rw [hf]; exact x_updall (by assumption)) (by omega) E H locs ls hP hD hS (lv_sub hl [1, 2, 0] rfl)
  exact L_9 (12 + 1) 0 t_kinds t_firsts t_seconds (by first | omega | assumption | rfl) (fun q h => absurd h (by omega)) (by omega) E H locs ls hP hD hS (lv_sub hl [1, 2, 0] rfl)
abbrev rX3_isFull : Room := { frames := 0, cells := 0, slots := 0, locals := 0 }
theorem vX3_isFull : yX3_isFull.cls = RX3 ∧ yX3_isFull.cls ≠ "java/lang/invoke/MethodHandle" ∧ yX3_isFull.cls ≠ "java/lang/invoke/VarHandle" ∧ (parseMethodDescriptor yX3_isFull.desc).map (fun d => d.parameters.length) = some 0 := by decide +kernel
abbrev wX3_isFull : List Cond := Cond.code yX3_isFull cX3_isFull 1 (some .boolean) :: wsL_law
def F_X3_isFull (t_doings : Nat) : Int32 :=
  x_nm (α := Int32) (if t_doings < 12 then 0 else 1) fun u_2 => u_2
set_option maxHeartbeats 4000000 in
set_option maxRecDepth 100000 in
theorem m_X3_isFull (l : Launch) (g : x_G) (tA tA_kinds tA_firsts tA_seconds : Nat) (t_radius : Int32) (t_skin : Int32) (t_filling : Int32) (t_water : Int32) (t_ends : Int32) (t_thin : Int32) (t_chance : Int32) (t_bentFace : Int32) (t_bentBy : Int32) (t_doings : Nat) (h_0 : t_doings ≤ 12) : x_MetI l yX3_isFull wX3_isFull rX3_isFull g [.ref tA] [(tA, .inr (3, [.int t_radius, .int t_skin, .int t_filling, .int t_water, .int t_ends, .int t_thin, .int t_chance, .int t_bentFace, .int t_bentBy, .int (nI t_doings), .ref tA_kinds, .ref tA_firsts, .ref tA_seconds]))] (fun (r : Int32) (u : Unit) => (r = F_X3_isFull t_doings) ∧ (r = 0 ∨ r = 1)) (fun _ => [(tA, .inr (3, [.int t_radius, .int t_skin, .int t_filling, .int t_water, .int t_ends, .int t_thin, .int t_chance, .int t_bentFace, .int t_bentBy, .int (nI t_doings), .ref tA_kinds, .ref tA_firsts, .ref tA_seconds]))]) := by
  refine x_startI (cc := cX3_isFull) (maxL := 1) (by decide) rfl (Nat.le_of_ble_eq_true rfl) ?_
  intro p e s m args below meth c Q A ls H locs hx hb hml hown hts hK hX hP hD hS hA hl RET
  have hown : s.vm.findClass RX3 = some m.cls := hown
  have hl : lv_has ls 1 [(0, .ref tA)] := hl
  obtain ⟨o_0, hO⟩ : ∃ z, z = F_X3_isFull t_doings := ⟨_, rfl⟩
  have E := hO
  rw [F_X3_isFull.eq_1] at E
  refine lv_aload_n hx hb dX3_isFull_0 rfl (lv_at hl 0 rfl) ?_
  refine va_get (ci := 3) (v := .int (nI t_doings)) (C := RX3) (T := TX3) (N := 13) hx hb hts inlX3 hown hK.1 hP 0 rfl rfl 9 (by decide) (hts _ kw_59) (fun _ h9 => h9) rfl dX3_isFull_1 ?_
  refine lv_bipush (v := 12) hx hb dX3_isFull_4 (by decide) ?_
  obtain ⟨o_2, E_2, E⟩ := x_nm_ex E
  have J_2 : ∀ (v_1 : Int32), o_2 = v_1 → (v_1 = 0 ∨ v_1 = 1) → ∀ (H : Heap) (locs : List Loc) (ls : Array Slot), va_P g.1 vwCl [(tA, .inr (3, [.int t_radius, .int t_skin, .int t_filling, .int t_water, .int t_ends, .int t_thin, .int t_chance, .int t_bentFace, .int t_bentBy, .int (nI t_doings), .ref tA_kinds, .ref tA_firsts, .ref tA_seconds]))] H → va_D A [(tA, .inr (3, [.int t_radius, .int t_skin, .int t_filling, .int t_water, .int t_ends, .int t_thin, .int t_chance, .int t_bentFace, .int t_bentBy, .int (nI t_doings), .ref tA_kinds, .ref tA_firsts, .ref tA_seconds]))] → va_S A s.heap H locs → lv_has ls 1 [] → W p l e rX3_isFull s m args below meth c H locs 0 0 Q (F0 m 14 ls [.int v_1]) := by
    intro v_1 hE f_2_0 H locs ls hP hD hS hl
    try rw [hE] at E
    exact RET v_1 () H locs _ _ (⟨E.symm.trans hO, (by assumption)⟩) (x_nar (by assumption)) hP hD hS dX3_isFull_14
  have E := E_2
  refine x_icmp_lt (a := t_doings) (b := 12) (tgt := 13) hx hb (by omega) (by omega) dX3_isFull_6 (by decide) (fun c_3 => ?_) (fun c_3 => ?_)
  · have E := x_pos E c_3
    refine lv_iconst (v := 0) hx hb dX3_isFull_13 (by decide) ?_
    exact J_2 0 E (Or.inl rfl) H locs ls hP hD hS (lv_sub hl [] rfl)
  · have E := x_neg E c_3
    refine lv_iconst (v := 1) hx hb dX3_isFull_9 (by decide) ?_
    refine lv_goto (tgt := 14) hx hb dX3_isFull_10 (by decide) ?_
    exact J_2 1 E (Or.inr rfl) H locs ls hP hD hS (lv_sub hl [] rfl)
abbrev rX3_add : Room := { frames := 0, cells := 0, slots := 0, locals := 0 }
theorem vX3_add : yX3_add.cls = RX3 ∧ yX3_add.cls ≠ "java/lang/invoke/MethodHandle" ∧ yX3_add.cls ≠ "java/lang/invoke/VarHandle" ∧ (parseMethodDescriptor yX3_add.desc).map (fun d => d.parameters.length) = some 3 := by decide +kernel
abbrev wX3_add : List Cond := Cond.code yX3_add cX3_add 4 none :: wsL_law
def F_X3_add (t_doings : Nat) (t_kinds : Nat → Int32) (t_firsts : Nat → Int32) (t_seconds : Nat → Int32) (a1 : Int32) (a2 : Int32) (a3 : Int32) : Nat × (Nat → Int32) × (Nat → Int32) × (Nat → Int32) :=
  x_nm (α := Nat × (Nat → Int32) × (Nat → Int32) × (Nat → Int32)) (if (nI t_doings) < 0 then (t_doings, t_kinds, t_firsts, t_seconds) else if 12 ≤ t_doings then (t_doings, t_kinds, t_firsts, t_seconds) else x_nm (upd t_kinds t_doings a1) fun t_kinds_8 => x_nm (upd t_firsts t_doings a2) fun t_firsts_9 => x_nm (upd t_seconds t_doings a3) fun t_seconds_10 => (t_doings + 1, t_kinds_8, t_firsts_9, t_seconds_10)) fun u_5 => (u_5.1, u_5.2.1, u_5.2.2.1, u_5.2.2.2)
set_option maxHeartbeats 4000000 in
set_option maxRecDepth 100000 in
theorem m_X3_add (l : Launch) (g : x_G) (tA tA_kinds tA_firsts tA_seconds : Nat) (t_radius : Int32) (t_skin : Int32) (t_filling : Int32) (t_water : Int32) (t_ends : Int32) (t_thin : Int32) (t_chance : Int32) (t_bentFace : Int32) (t_bentBy : Int32) (t_doings : Nat) (t_kinds : Nat → Int32) (t_firsts : Nat → Int32) (t_seconds : Nat → Int32) (a1 : Int32) (a2 : Int32) (a3 : Int32) (h_0 : t_doings ≤ 12) : x_MetV l yX3_add wX3_add rX3_add g [.ref tA, .int a1, .int a2, .int a3] [(tA, .inr (3, [.int t_radius, .int t_skin, .int t_filling, .int t_water, .int t_ends, .int t_thin, .int t_chance, .int t_bentFace, .int t_bentBy, .int (nI t_doings), .ref tA_kinds, .ref tA_firsts, .ref tA_seconds])), (tA_kinds, .inl (g.2.1 0, 12, .inl t_kinds)), (tA_firsts, .inl (g.2.1 0, 12, .inl t_firsts)), (tA_seconds, .inl (g.2.1 0, 12, .inl t_seconds))] (fun u : Nat × (Nat → Int32) × (Nat → Int32) × (Nat → Int32) => (u = F_X3_add t_doings t_kinds t_firsts t_seconds a1 a2 a3) ∧ (u.1 ≤ 12)) (fun u => [(tA, .inr (3, [.int t_radius, .int t_skin, .int t_filling, .int t_water, .int t_ends, .int t_thin, .int t_chance, .int t_bentFace, .int t_bentBy, .int (nI u.1), .ref tA_kinds, .ref tA_firsts, .ref tA_seconds])), (tA_kinds, .inl (g.2.1 0, 12, .inl u.2.1)), (tA_firsts, .inl (g.2.1 0, 12, .inl u.2.2.1)), (tA_seconds, .inl (g.2.1 0, 12, .inl u.2.2.2))]) := by
  refine x_startV (cc := cX3_add) (maxL := 4) (by decide) rfl (Nat.le_of_ble_eq_true rfl) ?_
  intro p e s m args below meth c Q A ls H locs hx hb hml hown hts hK hX hP hD hS hA hl RET
  have hown : s.vm.findClass RX3 = some m.cls := hown
  have hl : lv_has ls 4 [(0, .ref tA), (1, .int a1), (2, .int a2), (3, .int a3)] := hl
  obtain ⟨o_0, hO⟩ : ∃ z, z = F_X3_add t_doings t_kinds t_firsts t_seconds a1 a2 a3 := ⟨_, rfl⟩
  have E := hO
  rw [F_X3_add.eq_1] at E
  refine lv_aload_n hx hb dX3_add_0 rfl (lv_at hl 0 rfl) ?_
  refine va_get (ci := 3) (v := .int (nI t_doings)) (C := RX3) (T := TX3) (N := 13) hx hb hts inlX3 hown hK.1 hP 0 rfl rfl 9 (by decide) (hts _ kw_59) (fun _ h9 => h9) rfl dX3_add_1 ?_
  obtain ⟨o_5, E_5, E⟩ := x_nm_ex E
  have J_5 : ∀ (t_doings_1 : Nat) (t_kinds_2 : Nat → Int32) (t_firsts_3 : Nat → Int32) (t_seconds_4 : Nat → Int32), o_5 = (t_doings_1, t_kinds_2, t_firsts_3, t_seconds_4) → (t_doings_1 ≤ 12) → ∀ (H : Heap) (locs : List Loc) (ls : Array Slot), va_P g.1 vwCl [(tA, .inr (3, [.int t_radius, .int t_skin, .int t_filling, .int t_water, .int t_ends, .int t_thin, .int t_chance, .int t_bentFace, .int t_bentBy, .int (nI t_doings_1), .ref tA_kinds, .ref tA_firsts, .ref tA_seconds])), (tA_kinds, .inl (g.2.1 0, 12, .inl t_kinds_2)), (tA_firsts, .inl (g.2.1 0, 12, .inl t_firsts_3)), (tA_seconds, .inl (g.2.1 0, 12, .inl t_seconds_4))] H → va_D A [(tA, .inr (3, [.int t_radius, .int t_skin, .int t_filling, .int t_water, .int t_ends, .int t_thin, .int t_chance, .int t_bentFace, .int t_bentBy, .int (nI t_doings_1), .ref tA_kinds, .ref tA_firsts, .ref tA_seconds])), (tA_kinds, .inl (g.2.1 0, 12, .inl t_kinds_2)), (tA_firsts, .inl (g.2.1 0, 12, .inl t_firsts_3)), (tA_seconds, .inl (g.2.1 0, 12, .inl t_seconds_4))] → va_S A s.heap H locs → lv_has ls 4 [] → W p l e rX3_add s m args below meth c H locs 0 0 Q (F0 m 56 ls []) := by
    intro t_doings_1 t_kinds_2 t_firsts_3 t_seconds_4 hE f_5_0 H locs ls hP hD hS hl
    try rw [hE] at E
    exact RET (t_doings_1, t_kinds_2, t_firsts_3, t_seconds_4) H locs _ _ ⟨E.symm.trans hO, (show t_doings_1 ≤ 12 by first | omega | assumption | exact Or.inl rfl | exact Or.inr (by omega))⟩ hP hD hS dX3_add_56
  have E := E_5
  refine lv_if_lt (tgt := 56) hx hb dX3_add_4 (by decide) (fun c_6 => ?_) (fun c_6 => ?_)
  · have E := x_pos E c_6
    exact J_5 t_doings t_kinds t_firsts t_seconds E (by first | omega | assumption | rfl | exact Or.inl rfl | exact Or.inr (by omega)) H locs ls hP hD hS (lv_sub hl [] rfl)
  · have E := x_neg E c_6
    refine lv_aload_n hx hb dX3_add_7 rfl (lv_at hl 0 rfl) ?_
    refine va_get (ci := 3) (v := .int (nI t_doings)) (C := RX3) (T := TX3) (N := 13) hx hb hts inlX3 hown hK.1 hP 0 rfl rfl 9 (by decide) (hts _ kw_59) (fun _ h9 => h9) rfl dX3_add_8 ?_
    refine lv_bipush (v := 12) hx hb dX3_add_11 (by decide) ?_
    refine x_icmp_ge (a := t_doings) (b := 12) (tgt := 56) hx hb (by omega) (by omega) dX3_add_13 (by decide) (fun c_7 => ?_) (fun c_7 => ?_)
    · have E := x_pos E c_7
      exact J_5 t_doings t_kinds t_firsts t_seconds E (by first | omega | assumption | rfl | exact Or.inl rfl | exact Or.inr (by omega)) H locs ls hP hD hS (lv_sub hl [] rfl)
    · have E := x_neg E c_7
      refine lv_aload_n hx hb dX3_add_16 rfl (lv_at hl 0 rfl) ?_
      refine va_get (ci := 3) (v := .ref tA_kinds) (C := RX3) (T := TX3) (N := 13) hx hb hts inlX3 hown hK.1 hP 0 rfl rfl 10 (by decide) (hts _ kw_43) (fun _ h9 => h9) rfl dX3_add_17 ?_
      refine lv_aload_n hx hb dX3_add_20 rfl (lv_at hl 0 rfl) ?_
      refine va_get (ci := 3) (v := .int (nI t_doings)) (C := RX3) (T := TX3) (N := 13) hx hb hts inlX3 hown hK.1 hP 0 rfl rfl 9 (by decide) (hts _ kw_59) (fun _ h9 => h9) rfl dX3_add_21 ?_
      refine lv_iload_n hx hb dX3_add_24 rfl (lv_at hl 1 rfl) ?_
      refine x_iastN hx hb hK hP hD hS 1 t_doings rfl (by omega) (by decide) dX3_add_25 (fun t_kinds_8 H locs hf hP hD hS => ?_)
      have hP : va_P g.1 vwCl [(tA, .inr (3, [.int t_radius, .int t_skin, .int t_filling, .int t_water, .int t_ends, .int t_thin, .int t_chance, .int t_bentFace, .int t_bentBy, .int (nI t_doings), .ref tA_kinds, .ref tA_firsts, .ref tA_seconds])), (tA_kinds, .inl (g.2.1 0, 12, .inl t_kinds_8)), (tA_firsts, .inl (g.2.1 0, 12, .inl t_firsts)), (tA_seconds, .inl (g.2.1 0, 12, .inl t_seconds))] H := hP
      have hD : va_D A [(tA, .inr (3, [.int t_radius, .int t_skin, .int t_filling, .int t_water, .int t_ends, .int t_thin, .int t_chance, .int t_bentFace, .int t_bentBy, .int (nI t_doings), .ref tA_kinds, .ref tA_firsts, .ref tA_seconds])), (tA_kinds, .inl (g.2.1 0, 12, .inl t_kinds_8)), (tA_firsts, .inl (g.2.1 0, 12, .inl t_firsts)), (tA_seconds, .inl (g.2.1 0, 12, .inl t_seconds))] := hD
      have E := x_nm_eq E hf
      refine lv_aload_n hx hb dX3_add_26 rfl (lv_at hl 0 rfl) ?_
      refine va_get (ci := 3) (v := .ref tA_firsts) (C := RX3) (T := TX3) (N := 13) hx hb hts inlX3 hown hK.1 hP 0 rfl rfl 11 (by decide) (hts _ kw_44) (fun _ h9 => h9) rfl dX3_add_27 ?_
      refine lv_aload_n hx hb dX3_add_30 rfl (lv_at hl 0 rfl) ?_
      refine va_get (ci := 3) (v := .int (nI t_doings)) (C := RX3) (T := TX3) (N := 13) hx hb hts inlX3 hown hK.1 hP 0 rfl rfl 9 (by decide) (hts _ kw_59) (fun _ h9 => h9) rfl dX3_add_31 ?_
      refine lv_iload_n hx hb dX3_add_34 rfl (lv_at hl 2 rfl) ?_
      refine x_iastN hx hb hK hP hD hS 2 t_doings rfl (by omega) (by decide) dX3_add_35 (fun t_firsts_9 H locs hf hP hD hS => ?_)
      have hP : va_P g.1 vwCl [(tA, .inr (3, [.int t_radius, .int t_skin, .int t_filling, .int t_water, .int t_ends, .int t_thin, .int t_chance, .int t_bentFace, .int t_bentBy, .int (nI t_doings), .ref tA_kinds, .ref tA_firsts, .ref tA_seconds])), (tA_kinds, .inl (g.2.1 0, 12, .inl t_kinds_8)), (tA_firsts, .inl (g.2.1 0, 12, .inl t_firsts_9)), (tA_seconds, .inl (g.2.1 0, 12, .inl t_seconds))] H := hP
      have hD : va_D A [(tA, .inr (3, [.int t_radius, .int t_skin, .int t_filling, .int t_water, .int t_ends, .int t_thin, .int t_chance, .int t_bentFace, .int t_bentBy, .int (nI t_doings), .ref tA_kinds, .ref tA_firsts, .ref tA_seconds])), (tA_kinds, .inl (g.2.1 0, 12, .inl t_kinds_8)), (tA_firsts, .inl (g.2.1 0, 12, .inl t_firsts_9)), (tA_seconds, .inl (g.2.1 0, 12, .inl t_seconds))] := hD
      have E := x_nm_eq E hf
      refine lv_aload_n hx hb dX3_add_36 rfl (lv_at hl 0 rfl) ?_
      refine va_get (ci := 3) (v := .ref tA_seconds) (C := RX3) (T := TX3) (N := 13) hx hb hts inlX3 hown hK.1 hP 0 rfl rfl 12 (by decide) (hts _ kw_45) (fun _ h9 => h9) rfl dX3_add_37 ?_
      refine lv_aload_n hx hb dX3_add_40 rfl (lv_at hl 0 rfl) ?_
      refine va_get (ci := 3) (v := .int (nI t_doings)) (C := RX3) (T := TX3) (N := 13) hx hb hts inlX3 hown hK.1 hP 0 rfl rfl 9 (by decide) (hts _ kw_59) (fun _ h9 => h9) rfl dX3_add_41 ?_
      refine lv_iload_n hx hb dX3_add_44 rfl (lv_at hl 3 rfl) ?_
      refine x_iastN hx hb hK hP hD hS 3 t_doings rfl (by omega) (by decide) dX3_add_45 (fun t_seconds_10 H locs hf hP hD hS => ?_)
      have hP : va_P g.1 vwCl [(tA, .inr (3, [.int t_radius, .int t_skin, .int t_filling, .int t_water, .int t_ends, .int t_thin, .int t_chance, .int t_bentFace, .int t_bentBy, .int (nI t_doings), .ref tA_kinds, .ref tA_firsts, .ref tA_seconds])), (tA_kinds, .inl (g.2.1 0, 12, .inl t_kinds_8)), (tA_firsts, .inl (g.2.1 0, 12, .inl t_firsts_9)), (tA_seconds, .inl (g.2.1 0, 12, .inl t_seconds_10))] H := hP
      have hD : va_D A [(tA, .inr (3, [.int t_radius, .int t_skin, .int t_filling, .int t_water, .int t_ends, .int t_thin, .int t_chance, .int t_bentFace, .int t_bentBy, .int (nI t_doings), .ref tA_kinds, .ref tA_firsts, .ref tA_seconds])), (tA_kinds, .inl (g.2.1 0, 12, .inl t_kinds_8)), (tA_firsts, .inl (g.2.1 0, 12, .inl t_firsts_9)), (tA_seconds, .inl (g.2.1 0, 12, .inl t_seconds_10))] := hD
      have E := x_nm_eq E hf
      refine lv_aload_n hx hb dX3_add_46 rfl (lv_at hl 0 rfl) ?_
      refine lv_dup hx hb dX3_add_47 rfl ?_
      refine va_get (ci := 3) (v := .int (nI t_doings)) (C := RX3) (T := TX3) (N := 13) hx hb hts inlX3 hown hK.1 hP 0 rfl rfl 9 (by decide) (hts _ kw_59) (fun _ h9 => h9) rfl dX3_add_48 ?_
      refine lv_iconst (v := 1) hx hb dX3_add_51 (by decide) ?_
      refine lv_iadd hx hb dX3_add_52 ?_
      refine x_eqi (nI_add t_doings 1) ?_
      refine va_put (ci := 3) (v := .int (nI (t_doings + 1))) (ty := .int) (C := RX3) (T := TX3) (N := 13) hx hb hts inlX3 tyX3 tyX3_ok nmX3 hown hK.1 hP hD hS 0 rfl rfl 9 (by decide) (hts _ kw_59) (fun _ h9 => h9) rfl (tyX3_ok 9 (by decide)) rfl rfl (Nat.le_of_ble_eq_true rfl) dX3_add_53 (fun H locs hP hD hS => ?_)
      have hP : va_P g.1 vwCl [(tA, .inr (3, [.int t_radius, .int t_skin, .int t_filling, .int t_water, .int t_ends, .int t_thin, .int t_chance, .int t_bentFace, .int t_bentBy, .int (nI (t_doings + 1)), .ref tA_kinds, .ref tA_firsts, .ref tA_seconds])), (tA_kinds, .inl (g.2.1 0, 12, .inl t_kinds_8)), (tA_firsts, .inl (g.2.1 0, 12, .inl t_firsts_9)), (tA_seconds, .inl (g.2.1 0, 12, .inl t_seconds_10))] H := hP
      have hD : va_D A [(tA, .inr (3, [.int t_radius, .int t_skin, .int t_filling, .int t_water, .int t_ends, .int t_thin, .int t_chance, .int t_bentFace, .int t_bentBy, .int (nI (t_doings + 1)), .ref tA_kinds, .ref tA_firsts, .ref tA_seconds])), (tA_kinds, .inl (g.2.1 0, 12, .inl t_kinds_8)), (tA_firsts, .inl (g.2.1 0, 12, .inl t_firsts_9)), (tA_seconds, .inl (g.2.1 0, 12, .inl t_seconds_10))] := hD
      exact J_5 (t_doings + 1) t_kinds_8 t_firsts_9 t_seconds_10 E (by first | omega | assumption | rfl | exact Or.inl rfl | exact Or.inr (by omega)) H locs ls hP hD hS (lv_sub hl [] rfl)
abbrev rX3_planSeconds : Room := { frames := 0, cells := 0, slots := 0, locals := 0 }
theorem vX3_planSeconds : yX3_planSeconds.cls = RX3 ∧ yX3_planSeconds.cls ≠ "java/lang/invoke/MethodHandle" ∧ yX3_planSeconds.cls ≠ "java/lang/invoke/VarHandle" ∧ (parseMethodDescriptor yX3_planSeconds.desc).map (fun d => d.parameters.length) = some 0 := by decide +kernel
abbrev wX3_planSeconds : List Cond := Cond.code yX3_planSeconds cX3_planSeconds 3 (some .int) :: wsL_law
def F_X3_planSeconds_L4 (t_doings : Nat) (t_seconds : Nat → Int32) : Nat → Int32 → Nat → Int32
  | 0, l1_3, k2_4 => l1_3
  | n_5 + 1, l1_3, k2_4 => if t_doings ≤ k2_4 then l1_3 else if 12 ≤ k2_4 then l1_3 else F_X3_planSeconds_L4 t_doings t_seconds n_5 (l1_3 + (t_seconds k2_4)) (k2_4 + 1)
def F_X3_planSeconds (t_doings : Nat) (t_seconds : Nat → Int32) : Int32 :=
  x_nm (α := Int32) (F_X3_planSeconds_L4 t_doings t_seconds (12 + 1) 0 0) fun u_2 => u_2
set_option maxHeartbeats 4000000 in
set_option maxRecDepth 100000 in
theorem m_X3_planSeconds (l : Launch) (g : x_G) (tA tA_seconds tA_kinds tA_firsts : Nat) (t_radius : Int32) (t_skin : Int32) (t_filling : Int32) (t_water : Int32) (t_ends : Int32) (t_thin : Int32) (t_chance : Int32) (t_bentFace : Int32) (t_bentBy : Int32) (t_doings : Nat) (t_seconds : Nat → Int32) (h_0 : t_doings ≤ 12) : x_MetI l yX3_planSeconds wX3_planSeconds rX3_planSeconds g [.ref tA] [(tA, .inr (3, [.int t_radius, .int t_skin, .int t_filling, .int t_water, .int t_ends, .int t_thin, .int t_chance, .int t_bentFace, .int t_bentBy, .int (nI t_doings), .ref tA_kinds, .ref tA_firsts, .ref tA_seconds])), (tA_seconds, .inl (g.2.1 0, 12, .inl t_seconds))] (fun (r : Int32) (u : Unit) => r = F_X3_planSeconds t_doings t_seconds) (fun _ => [(tA, .inr (3, [.int t_radius, .int t_skin, .int t_filling, .int t_water, .int t_ends, .int t_thin, .int t_chance, .int t_bentFace, .int t_bentBy, .int (nI t_doings), .ref tA_kinds, .ref tA_firsts, .ref tA_seconds])), (tA_seconds, .inl (g.2.1 0, 12, .inl t_seconds))]) := by
  refine x_startI (cc := cX3_planSeconds) (maxL := 3) (by decide) rfl (Nat.le_of_ble_eq_true rfl) ?_
  intro p e s m args below meth c Q A ls H locs hx hb hml hown hts hK hX hP hD hS hA hl RET
  have hown : s.vm.findClass RX3 = some m.cls := hown
  have hl : lv_has ls 3 [(0, .ref tA)] := hl
  obtain ⟨o_0, hO⟩ : ∃ z, z = F_X3_planSeconds t_doings t_seconds := ⟨_, rfl⟩
  have E := hO
  rw [F_X3_planSeconds.eq_1] at E
  refine lv_iconst (v := 0) hx hb dX3_planSeconds_0 (by decide) ?_
  refine lv_istore_n (lv' := [(1, .int 0), (0, .ref tA)]) hx hb dX3_planSeconds_1 rfl hl (by decide) rfl (fun ls hl => ?_)
  refine lv_iconst (v := 0) hx hb dX3_planSeconds_2 (by decide) ?_
  refine lv_istore_n (lv' := [(2, .int 0), (1, .int 0), (0, .ref tA)]) hx hb dX3_planSeconds_3 rfl hl (by decide) rfl (fun ls hl => ?_)
  obtain ⟨o_2, E_2, E⟩ := x_nm_ex E
  have J_2 : ∀ (l1_1 : Int32), o_2 = l1_1 → ∀ (H : Heap) (locs : List Loc) (ls : Array Slot), va_P g.1 vwCl [(tA, .inr (3, [.int t_radius, .int t_skin, .int t_filling, .int t_water, .int t_ends, .int t_thin, .int t_chance, .int t_bentFace, .int t_bentBy, .int (nI t_doings), .ref tA_kinds, .ref tA_firsts, .ref tA_seconds])), (tA_seconds, .inl (g.2.1 0, 12, .inl t_seconds))] H → va_D A [(tA, .inr (3, [.int t_radius, .int t_skin, .int t_filling, .int t_water, .int t_ends, .int t_thin, .int t_chance, .int t_bentFace, .int t_bentBy, .int (nI t_doings), .ref tA_kinds, .ref tA_firsts, .ref tA_seconds])), (tA_seconds, .inl (g.2.1 0, 12, .inl t_seconds))] → va_S A s.heap H locs → lv_has ls 3 [(1, .int l1_1)] → W p l e rX3_planSeconds s m args below meth c H locs 0 0 Q (F0 m 33 ls []) := by
    intro l1_1 hE  H locs ls hP hD hS hl
    try rw [hE] at E
    refine lv_iload_n hx hb dX3_planSeconds_33 rfl (lv_at hl 0 rfl) ?_
    exact RET l1_1 () H locs _ _ (E.symm.trans hO) rfl hP hD hS dX3_planSeconds_34
  have E := E_2
  have L_5 : ∀ (n_5 : Nat) (l1_3 : Int32) (k2_4 : Nat), (k2_4 ≤ 12) → ((12 - k2_4) < n_5) → o_2 = F_X3_planSeconds_L4 t_doings t_seconds n_5 l1_3 k2_4 → ∀ (H : Heap) (locs : List Loc) (ls : Array Slot), va_P g.1 vwCl [(tA, .inr (3, [.int t_radius, .int t_skin, .int t_filling, .int t_water, .int t_ends, .int t_thin, .int t_chance, .int t_bentFace, .int t_bentBy, .int (nI t_doings), .ref tA_kinds, .ref tA_firsts, .ref tA_seconds])), (tA_seconds, .inl (g.2.1 0, 12, .inl t_seconds))] H → va_D A [(tA, .inr (3, [.int t_radius, .int t_skin, .int t_filling, .int t_water, .int t_ends, .int t_thin, .int t_chance, .int t_bentFace, .int t_bentBy, .int (nI t_doings), .ref tA_kinds, .ref tA_firsts, .ref tA_seconds])), (tA_seconds, .inl (g.2.1 0, 12, .inl t_seconds))] → va_S A s.heap H locs → lv_has ls 3 [(0, .ref tA), (1, .int l1_3), (2, .int (nI k2_4))] → W p l e rX3_planSeconds s m args below meth c H locs 0 0 Q (F0 m 4 ls []) := by
    intro n_5
    induction n_5 with
    | zero => intro l1_3 k2_4 i_5_0 i_5_1; exact absurd i_5_1 (by omega)
    | succ n_5 ih_5 =>
      intro l1_3 k2_4 i_5_0 i_5_1 E H locs ls hP hD hS hl
      rw [F_X3_planSeconds_L4.eq_2] at E
      refine lv_iload_n hx hb dX3_planSeconds_4 rfl (lv_at hl 2 rfl) ?_
      refine lv_aload_n hx hb dX3_planSeconds_5 rfl (lv_at hl 0 rfl) ?_
      refine va_get (ci := 3) (v := .int (nI t_doings)) (C := RX3) (T := TX3) (N := 13) hx hb hts inlX3 hown hK.1 hP 0 rfl rfl 9 (by decide) (hts _ kw_59) (fun _ h9 => h9) rfl dX3_planSeconds_6 ?_
      refine x_icmp_ge (a := k2_4) (b := t_doings) (tgt := 33) hx hb (by omega) (by omega) dX3_planSeconds_9 (by decide) (fun c_6 => ?_) (fun c_6 => ?_)
      · have E := x_pos E c_6
        exact J_2 l1_3 E  H locs ls hP hD hS (lv_sub hl [1] rfl)
      · have E := x_neg E c_6
        refine lv_iload_n hx hb dX3_planSeconds_12 rfl (lv_at hl 2 rfl) ?_
        refine lv_bipush (v := 12) hx hb dX3_planSeconds_13 (by decide) ?_
        refine x_icmp_ge (a := k2_4) (b := 12) (tgt := 33) hx hb (by omega) (by omega) dX3_planSeconds_15 (by decide) (fun c_7 => ?_) (fun c_7 => ?_)
        · have E := x_pos E c_7
          exact J_2 l1_3 E  H locs ls hP hD hS (lv_sub hl [1] rfl)
        · have E := x_neg E c_7
          refine lv_iload_n hx hb dX3_planSeconds_18 rfl (lv_at hl 1 rfl) ?_
          refine lv_aload_n hx hb dX3_planSeconds_19 rfl (lv_at hl 0 rfl) ?_
          refine va_get (ci := 3) (v := .ref tA_seconds) (C := RX3) (T := TX3) (N := 13) hx hb hts inlX3 hown hK.1 hP 0 rfl rfl 12 (by decide) (hts _ kw_45) (fun _ h9 => h9) rfl dX3_planSeconds_20 ?_
          refine lv_iload_n hx hb dX3_planSeconds_23 rfl (lv_at hl 2 rfl) ?_
          refine x_ialdN hx hb hK hP 1 k2_4 rfl (by omega) (by decide) dX3_planSeconds_24 ?_
          refine lv_iadd hx hb dX3_planSeconds_25 ?_
          refine lv_istore_n (lv' := [(1, .int (l1_3 + (t_seconds k2_4))), (0, .ref tA), (2, .int (nI k2_4))]) hx hb dX3_planSeconds_26 rfl hl (by decide) rfl (fun ls hl => ?_)
          refine lv_iinc (v := nI (k2_4 + 1)) (lv' := [(2, .int (nI (k2_4 + 1))), (1, .int (l1_3 + (t_seconds k2_4))), (0, .ref tA)]) hx hb dX3_planSeconds_27 hl (k := 2) rfl (nI_1 k2_4) (by decide) rfl (fun ls hl => ?_)
          refine lv_goto (tgt := 4) hx hb dX3_planSeconds_30 (by decide) ?_
          exact ih_5 (l1_3 + (t_seconds k2_4)) (k2_4 + 1) (by first | omega | assumption | exact Eq.trans (by assumption) (by assumption)) (by omega) E H locs ls hP hD hS (lv_sub hl [2, 1, 0] rfl)
  exact L_5 (12 + 1) 0 0 (by first | omega | assumption | rfl) (by omega) E H locs ls hP hD hS (lv_sub hl [2, 1, 0] rfl)
abbrev rX3_heatFires : Room := { frames := 1, cells := 0, slots := 0, locals := 21 }
theorem vX3_heatFires : yX3_heatFires.cls = RX3 ∧ yX3_heatFires.cls ≠ "java/lang/invoke/MethodHandle" ∧ yX3_heatFires.cls ≠ "java/lang/invoke/VarHandle" ∧ (parseMethodDescriptor yX3_heatFires.desc).map (fun d => d.parameters.length) = some 1 := by decide +kernel
abbrev wX3_heatFires : List Cond := Cond.code yX3_heatFires cX3_heatFires 3 none :: wsL_law
def F_X3_heatFires_L2 (t_doings : Nat) (t_kinds : Nat → Int32) (a1 : Int32) : Nat → Nat → (Nat → Int32) → (Nat → Int32)
  | 0, k2_3, t_firsts_4 => t_firsts_4
  | n_5 + 1, k2_3, t_firsts_4 => if t_doings ≤ k2_3 then t_firsts_4 else if 12 ≤ k2_3 then t_firsts_4 else x_nm (α := (Nat → Int32)) (if (t_kinds k2_3) = 0 then x_nm (if ((t_firsts_4 k2_3) + a1) < (300 : Int32) then ((t_firsts_4 k2_3) + a1) else (300 : Int32)) fun q_11 => x_nm (upd t_firsts_4 k2_3 q_11) fun t_firsts_12 => t_firsts_12 else t_firsts_4) fun u_9 => F_X3_heatFires_L2 t_doings t_kinds a1 n_5 (k2_3 + 1) u_9
def F_X3_heatFires (t_doings : Nat) (t_kinds : Nat → Int32) (t_firsts : Nat → Int32) (a1 : Int32) : (Nat → Int32) :=
  x_nm (α := (Nat → Int32)) (F_X3_heatFires_L2 t_doings t_kinds a1 (12 + 1) 0 t_firsts) fun u_2 => u_2
set_option maxHeartbeats 4000000 in
set_option maxRecDepth 100000 in
theorem m_X3_heatFires (l : Launch) (g : x_G) (tA tA_kinds tA_firsts tA_seconds : Nat) (t_radius : Int32) (t_skin : Int32) (t_filling : Int32) (t_water : Int32) (t_ends : Int32) (t_thin : Int32) (t_chance : Int32) (t_bentFace : Int32) (t_bentBy : Int32) (t_doings : Nat) (t_kinds : Nat → Int32) (t_firsts : Nat → Int32) (a1 : Int32) (h_0 : t_doings ≤ 12) : x_MetV l yX3_heatFires wX3_heatFires rX3_heatFires g [.ref tA, .int a1] [(tA, .inr (3, [.int t_radius, .int t_skin, .int t_filling, .int t_water, .int t_ends, .int t_thin, .int t_chance, .int t_bentFace, .int t_bentBy, .int (nI t_doings), .ref tA_kinds, .ref tA_firsts, .ref tA_seconds])), (tA_kinds, .inl (g.2.1 0, 12, .inl t_kinds)), (tA_firsts, .inl (g.2.1 0, 12, .inl t_firsts))] (fun u : (Nat → Int32) => u = F_X3_heatFires t_doings t_kinds t_firsts a1) (fun u => [(tA, .inr (3, [.int t_radius, .int t_skin, .int t_filling, .int t_water, .int t_ends, .int t_thin, .int t_chance, .int t_bentFace, .int t_bentBy, .int (nI t_doings), .ref tA_kinds, .ref tA_firsts, .ref tA_seconds])), (tA_kinds, .inl (g.2.1 0, 12, .inl t_kinds)), (tA_firsts, .inl (g.2.1 0, 12, .inl u))]) := by
  refine x_startV (cc := cX3_heatFires) (maxL := 3) (by decide) rfl (Nat.le_of_ble_eq_true rfl) ?_
  intro p e s m args below meth c Q A ls H locs hx hb hml hown hts hK hX hP hD hS hA hl RET
  have hown : s.vm.findClass RX3 = some m.cls := hown
  have hl : lv_has ls 3 [(0, .ref tA), (1, .int a1)] := hl
  obtain ⟨o_0, hO⟩ : ∃ z, z = F_X3_heatFires t_doings t_kinds t_firsts a1 := ⟨_, rfl⟩
  have E := hO
  rw [F_X3_heatFires.eq_1] at E
  refine lv_iconst (v := 0) hx hb dX3_heatFires_0 (by decide) ?_
  refine lv_istore_n (lv' := [(2, .int 0), (0, .ref tA), (1, .int a1)]) hx hb dX3_heatFires_1 rfl hl (by decide) rfl (fun ls hl => ?_)
  obtain ⟨o_2, E_2, E⟩ := x_nm_ex E
  have J_2 : ∀ (t_firsts_1 : Nat → Int32), o_2 = t_firsts_1 → ∀ (H : Heap) (locs : List Loc) (ls : Array Slot), va_P g.1 vwCl [(tA, .inr (3, [.int t_radius, .int t_skin, .int t_filling, .int t_water, .int t_ends, .int t_thin, .int t_chance, .int t_bentFace, .int t_bentBy, .int (nI t_doings), .ref tA_kinds, .ref tA_firsts, .ref tA_seconds])), (tA_kinds, .inl (g.2.1 0, 12, .inl t_kinds)), (tA_firsts, .inl (g.2.1 0, 12, .inl t_firsts_1))] H → va_D A [(tA, .inr (3, [.int t_radius, .int t_skin, .int t_filling, .int t_water, .int t_ends, .int t_thin, .int t_chance, .int t_bentFace, .int t_bentBy, .int (nI t_doings), .ref tA_kinds, .ref tA_firsts, .ref tA_seconds])), (tA_kinds, .inl (g.2.1 0, 12, .inl t_kinds)), (tA_firsts, .inl (g.2.1 0, 12, .inl t_firsts_1))] → va_S A s.heap H locs → lv_has ls 3 [] → W p l e rX3_heatFires s m args below meth c H locs 0 0 Q (F0 m 51 ls []) := by
    intro t_firsts_1 hE  H locs ls hP hD hS hl
    try rw [hE] at E
    exact RET t_firsts_1 H locs _ _ (E.symm.trans hO) hP hD hS dX3_heatFires_51
  have E := E_2
  have L_5 : ∀ (n_5 : Nat) (k2_3 : Nat) (t_firsts_4 : Nat → Int32), (k2_3 ≤ 12) → ((12 - k2_3) < n_5) → o_2 = F_X3_heatFires_L2 t_doings t_kinds a1 n_5 k2_3 t_firsts_4 → ∀ (H : Heap) (locs : List Loc) (ls : Array Slot), va_P g.1 vwCl [(tA, .inr (3, [.int t_radius, .int t_skin, .int t_filling, .int t_water, .int t_ends, .int t_thin, .int t_chance, .int t_bentFace, .int t_bentBy, .int (nI t_doings), .ref tA_kinds, .ref tA_firsts, .ref tA_seconds])), (tA_kinds, .inl (g.2.1 0, 12, .inl t_kinds)), (tA_firsts, .inl (g.2.1 0, 12, .inl t_firsts_4))] H → va_D A [(tA, .inr (3, [.int t_radius, .int t_skin, .int t_filling, .int t_water, .int t_ends, .int t_thin, .int t_chance, .int t_bentFace, .int t_bentBy, .int (nI t_doings), .ref tA_kinds, .ref tA_firsts, .ref tA_seconds])), (tA_kinds, .inl (g.2.1 0, 12, .inl t_kinds)), (tA_firsts, .inl (g.2.1 0, 12, .inl t_firsts_4))] → va_S A s.heap H locs → lv_has ls 3 [(0, .ref tA), (1, .int a1), (2, .int (nI k2_3))] → W p l e rX3_heatFires s m args below meth c H locs 0 0 Q (F0 m 2 ls []) := by
    intro n_5
    induction n_5 with
    | zero => intro k2_3 t_firsts_4 i_5_0 i_5_1; exact absurd i_5_1 (by omega)
    | succ n_5 ih_5 =>
      intro k2_3 t_firsts_4 i_5_0 i_5_1 E H locs ls hP hD hS hl
      rw [F_X3_heatFires_L2.eq_2] at E
      refine lv_iload_n hx hb dX3_heatFires_2 rfl (lv_at hl 2 rfl) ?_
      refine lv_aload_n hx hb dX3_heatFires_3 rfl (lv_at hl 0 rfl) ?_
      refine va_get (ci := 3) (v := .int (nI t_doings)) (C := RX3) (T := TX3) (N := 13) hx hb hts inlX3 hown hK.1 hP 0 rfl rfl 9 (by decide) (hts _ kw_59) (fun _ h9 => h9) rfl dX3_heatFires_4 ?_
      refine x_icmp_ge (a := k2_3) (b := t_doings) (tgt := 51) hx hb (by omega) (by omega) dX3_heatFires_7 (by decide) (fun c_6 => ?_) (fun c_6 => ?_)
      · have E := x_pos E c_6
        exact J_2 t_firsts_4 E  H locs ls hP hD hS (lv_sub hl [] rfl)
      · have E := x_neg E c_6
        refine lv_iload_n hx hb dX3_heatFires_10 rfl (lv_at hl 2 rfl) ?_
        refine lv_bipush (v := 12) hx hb dX3_heatFires_11 (by decide) ?_
        refine x_icmp_ge (a := k2_3) (b := 12) (tgt := 51) hx hb (by omega) (by omega) dX3_heatFires_13 (by decide) (fun c_7 => ?_) (fun c_7 => ?_)
        · have E := x_pos E c_7
          exact J_2 t_firsts_4 E  H locs ls hP hD hS (lv_sub hl [] rfl)
        · have E := x_neg E c_7
          refine lv_aload_n hx hb dX3_heatFires_16 rfl (lv_at hl 0 rfl) ?_
          refine va_get (ci := 3) (v := .ref tA_kinds) (C := RX3) (T := TX3) (N := 13) hx hb hts inlX3 hown hK.1 hP 0 rfl rfl 10 (by decide) (hts _ kw_43) (fun _ h9 => h9) rfl dX3_heatFires_17 ?_
          refine lv_iload_n hx hb dX3_heatFires_20 rfl (lv_at hl 2 rfl) ?_
          refine x_ialdN hx hb hK hP 1 k2_3 rfl (by omega) (by decide) dX3_heatFires_21 ?_
          obtain ⟨o_9, E_9, E⟩ := x_nm_ex E
          have J_9 : ∀ (t_firsts_8 : Nat → Int32), o_9 = t_firsts_8 → ∀ (H : Heap) (locs : List Loc) (ls : Array Slot), va_P g.1 vwCl [(tA, .inr (3, [.int t_radius, .int t_skin, .int t_filling, .int t_water, .int t_ends, .int t_thin, .int t_chance, .int t_bentFace, .int t_bentBy, .int (nI t_doings), .ref tA_kinds, .ref tA_firsts, .ref tA_seconds])), (tA_kinds, .inl (g.2.1 0, 12, .inl t_kinds)), (tA_firsts, .inl (g.2.1 0, 12, .inl t_firsts_8))] H → va_D A [(tA, .inr (3, [.int t_radius, .int t_skin, .int t_filling, .int t_water, .int t_ends, .int t_thin, .int t_chance, .int t_bentFace, .int t_bentBy, .int (nI t_doings), .ref tA_kinds, .ref tA_firsts, .ref tA_seconds])), (tA_kinds, .inl (g.2.1 0, 12, .inl t_kinds)), (tA_firsts, .inl (g.2.1 0, 12, .inl t_firsts_8))] → va_S A s.heap H locs → lv_has ls 3 [(0, .ref tA), (1, .int a1), (2, .int (nI k2_3))] → W p l e rX3_heatFires s m args below meth c H locs 0 0 Q (F0 m 45 ls []) := by
            intro t_firsts_8 hE  H locs ls hP hD hS hl
            try rw [hE] at E
            refine lv_iinc (v := nI (k2_3 + 1)) (lv' := [(2, .int (nI (k2_3 + 1))), (0, .ref tA), (1, .int a1)]) hx hb dX3_heatFires_45 hl (k := 2) rfl (nI_1 k2_3) (by decide) rfl (fun ls hl => ?_)
            refine lv_goto (tgt := 2) hx hb dX3_heatFires_48 (by decide) ?_
            exact ih_5 (k2_3 + 1) t_firsts_8 (by first | omega | assumption | exact Eq.trans (by assumption) (by assumption)) (by omega) E H locs ls hP hD hS (lv_sub hl [1, 2, 0] rfl)
          have E := E_9
          refine x_if_neI (tgt := 45) hx hb dX3_heatFires_22 (by decide) (fun c_10 => ?_) (fun c_10 => ?_)
          · have E := x_neg E c_10
            exact J_9 t_firsts_4 E  H locs ls hP hD hS (lv_sub hl [0, 1, 2] rfl)
          · have E := x_pos E c_10
            refine lv_aload_n hx hb dX3_heatFires_25 rfl (lv_at hl 0 rfl) ?_
            refine va_get (ci := 3) (v := .ref tA_firsts) (C := RX3) (T := TX3) (N := 13) hx hb hts inlX3 hown hK.1 hP 0 rfl rfl 11 (by decide) (hts _ kw_44) (fun _ h9 => h9) rfl dX3_heatFires_26 ?_
            refine lv_iload_n hx hb dX3_heatFires_29 rfl (lv_at hl 2 rfl) ?_
            refine lv_sipush (v := 300) hx hb dX3_heatFires_30 (by decide) ?_
            refine lv_aload_n hx hb dX3_heatFires_33 rfl (lv_at hl 0 rfl) ?_
            refine va_get (ci := 3) (v := .ref tA_firsts) (C := RX3) (T := TX3) (N := 13) hx hb hts inlX3 hown hK.1 hP 0 rfl rfl 11 (by decide) (hts _ kw_44) (fun _ h9 => h9) rfl dX3_heatFires_34 ?_
            refine lv_iload_n hx hb dX3_heatFires_37 rfl (lv_at hl 2 rfl) ?_
            refine x_ialdN hx hb hK hP 2 k2_3 rfl (by omega) (by decide) dX3_heatFires_38 ?_
            refine lv_iload_n hx hb dX3_heatFires_39 rfl (lv_at hl 1 rfl) ?_
            refine lv_iadd hx hb dX3_heatFires_40 ?_
            refine va_mmin hx hb (hml.trans hl.1.symm) hown (hts _ kw_720) (hts _ kw_171) (hts _ kw_172) (hts _ kw_173) (Nat.le_of_ble_eq_true rfl) (Nat.le_of_ble_eq_true rfl) (Nat.zero_le _) (Nat.zero_le _) dX3_heatFires_41 ?_
            refine lv_topi (fun q_11 hq => ?_)
            have E := x_nm_eq E hq
            refine x_iastN hx hb hK hP hD hS 2 k2_3 rfl (by omega) (by decide) dX3_heatFires_44 (fun t_firsts_12 H locs hf hP hD hS => ?_)
            have hP : va_P g.1 vwCl [(tA, .inr (3, [.int t_radius, .int t_skin, .int t_filling, .int t_water, .int t_ends, .int t_thin, .int t_chance, .int t_bentFace, .int t_bentBy, .int (nI t_doings), .ref tA_kinds, .ref tA_firsts, .ref tA_seconds])), (tA_kinds, .inl (g.2.1 0, 12, .inl t_kinds)), (tA_firsts, .inl (g.2.1 0, 12, .inl t_firsts_12))] H := hP
            have hD : va_D A [(tA, .inr (3, [.int t_radius, .int t_skin, .int t_filling, .int t_water, .int t_ends, .int t_thin, .int t_chance, .int t_bentFace, .int t_bentBy, .int (nI t_doings), .ref tA_kinds, .ref tA_firsts, .ref tA_seconds])), (tA_kinds, .inl (g.2.1 0, 12, .inl t_kinds)), (tA_firsts, .inl (g.2.1 0, 12, .inl t_firsts_12))] := hD
            have E := x_nm_eq E hf
            exact J_9 t_firsts_12 E  H locs ls hP hD hS (lv_sub hl [0, 1, 2] rfl)
  exact L_5 (12 + 1) 0 t_firsts (by first | omega | assumption | rfl) (by omega) E H locs ls hP hD hS (lv_sub hl [1, 2, 0] rfl)
