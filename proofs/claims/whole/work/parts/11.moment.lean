abbrev rX1_turnBy : Room := { frames := 0, cells := 0, slots := 0, locals := 0 }
theorem vX1_turnBy : yX1_turnBy.cls = RX1 ∧ yX1_turnBy.cls ≠ "java/lang/invoke/MethodHandle" ∧ yX1_turnBy.cls ≠ "java/lang/invoke/VarHandle" ∧ (parseMethodDescriptor yX1_turnBy.desc).map (fun d => d.parameters.length) = some 1 := by decide +kernel
abbrev wX1_turnBy : List Cond := Cond.code yX1_turnBy cX1_turnBy 2 none :: wsL_law
def F_X1_turnBy (t_down : Int32) (a1 : Int32) : Int32 :=
  (t_down + a1) &&& 3
set_option maxHeartbeats 4000000 in
set_option maxRecDepth 100000 in
theorem m_X1_turnBy (l : Launch) (g : x_G) (tA tA_degrees tA_brown : Nat) (t_down : Int32) (t_core : Int32) (t_water : Int32) (t_pricked : Int32) (t_thinSpots : Int32) (t_seconds : Int32) (t_gone : Int32) (t_splitAt : Int32) (t_steam : Int32) (a1 : Int32) : x_MetV l yX1_turnBy wX1_turnBy rX1_turnBy g [.ref tA, .int a1] [(tA, .inr (1, [.int t_down, .ref tA_degrees, .ref tA_brown, .int t_core, .int t_water, .int t_pricked, .int t_thinSpots, .int t_seconds, .int t_gone, .int t_splitAt, .int t_steam]))] (fun u : Int32 => u = F_X1_turnBy t_down a1) (fun u => [(tA, .inr (1, [.int u, .ref tA_degrees, .ref tA_brown, .int t_core, .int t_water, .int t_pricked, .int t_thinSpots, .int t_seconds, .int t_gone, .int t_splitAt, .int t_steam]))]) := by
  refine x_startV (cc := cX1_turnBy) (maxL := 2) (by decide) rfl (Nat.le_of_ble_eq_true rfl) ?_
  intro p e s m args below meth c Q A ls H locs hx hb hml hown hts hK hX hP hD hS hA hl RET
  have hown : s.vm.findClass RX1 = some m.cls := hown
  have hl : lv_has ls 2 [(0, .ref tA), (1, .int a1)] := hl
  obtain ⟨o_0, hO⟩ : ∃ z, z = F_X1_turnBy t_down a1 := ⟨_, rfl⟩
  have E := hO
  rw [F_X1_turnBy.eq_1] at E
  refine lv_aload_n hx hb dX1_turnBy_0 rfl (lv_at hl 0 rfl) ?_
  refine lv_aload_n hx hb dX1_turnBy_1 rfl (lv_at hl 0 rfl) ?_
  refine va_get (ci := 1) (v := .int t_down) (C := RX1) (T := TX1) (N := 11) hx hb hts inlX1 hown hK.1 hP 0 rfl rfl 0 (by decide) (hts _ kw_79) (fun _ h9 => h9) rfl dX1_turnBy_2 ?_
  refine lv_iload_n hx hb dX1_turnBy_5 rfl (lv_at hl 1 rfl) ?_
  refine lv_iadd hx hb dX1_turnBy_6 ?_
  refine lv_iconst (v := 3) hx hb dX1_turnBy_7 (by decide) ?_
  refine lv_iand hx hb dX1_turnBy_8 ?_
  refine va_put (ci := 1) (v := .int ((t_down + a1) &&& 3)) (ty := .int) (C := RX1) (T := TX1) (N := 11) hx hb hts inlX1 tyX1 tyX1_ok nmX1 hown hK.1 hP hD hS 0 rfl rfl 0 (by decide) (hts _ kw_79) (fun _ h9 => h9) rfl (tyX1_ok 0 (by decide)) rfl rfl (Nat.le_of_ble_eq_true rfl) dX1_turnBy_9 (fun H locs hP hD hS => ?_)
  have hP : va_P g.1 vwCl [(tA, .inr (1, [.int ((t_down + a1) &&& 3), .ref tA_degrees, .ref tA_brown, .int t_core, .int t_water, .int t_pricked, .int t_thinSpots, .int t_seconds, .int t_gone, .int t_splitAt, .int t_steam]))] H := hP
  have hD : va_D A [(tA, .inr (1, [.int ((t_down + a1) &&& 3), .ref tA_degrees, .ref tA_brown, .int t_core, .int t_water, .int t_pricked, .int t_thinSpots, .int t_seconds, .int t_gone, .int t_splitAt, .int t_steam]))] := hD
  exact RET ((t_down + a1) &&& 3) H locs _ _ (E.symm.trans hO) hP hD hS dX1_turnBy_12
abbrev rX1_prickBy : Room := { frames := 1, cells := 0, slots := 0, locals := 21 }
theorem vX1_prickBy : yX1_prickBy.cls = RX1 ∧ yX1_prickBy.cls ≠ "java/lang/invoke/MethodHandle" ∧ yX1_prickBy.cls ≠ "java/lang/invoke/VarHandle" ∧ (parseMethodDescriptor yX1_prickBy.desc).map (fun d => d.parameters.length) = some 1 := by decide +kernel
abbrev wX1_prickBy : List Cond := Cond.code yX1_prickBy cX1_prickBy 2 none :: wsL_law
def F_X1_prickBy (t_pricked : Int32) (a1 : Int32) : Int32 :=
  x_nm (if (t_pricked + a1) < (99 : Int32) then (t_pricked + a1) else (99 : Int32)) fun q_1 => q_1
set_option maxHeartbeats 4000000 in
set_option maxRecDepth 100000 in
theorem m_X1_prickBy (l : Launch) (g : x_G) (tA tA_degrees tA_brown : Nat) (t_down : Int32) (t_core : Int32) (t_water : Int32) (t_pricked : Int32) (t_thinSpots : Int32) (t_seconds : Int32) (t_gone : Int32) (t_splitAt : Int32) (t_steam : Int32) (a1 : Int32) : x_MetV l yX1_prickBy wX1_prickBy rX1_prickBy g [.ref tA, .int a1] [(tA, .inr (1, [.int t_down, .ref tA_degrees, .ref tA_brown, .int t_core, .int t_water, .int t_pricked, .int t_thinSpots, .int t_seconds, .int t_gone, .int t_splitAt, .int t_steam]))] (fun u : Int32 => u = F_X1_prickBy t_pricked a1) (fun u => [(tA, .inr (1, [.int t_down, .ref tA_degrees, .ref tA_brown, .int t_core, .int t_water, .int u, .int t_thinSpots, .int t_seconds, .int t_gone, .int t_splitAt, .int t_steam]))]) := by
  refine x_startV (cc := cX1_prickBy) (maxL := 2) (by decide) rfl (Nat.le_of_ble_eq_true rfl) ?_
  intro p e s m args below meth c Q A ls H locs hx hb hml hown hts hK hX hP hD hS hA hl RET
  have hown : s.vm.findClass RX1 = some m.cls := hown
  have hl : lv_has ls 2 [(0, .ref tA), (1, .int a1)] := hl
  obtain ⟨o_0, hO⟩ : ∃ z, z = F_X1_prickBy t_pricked a1 := ⟨_, rfl⟩
  have E := hO
  rw [F_X1_prickBy.eq_1] at E
  refine lv_aload_n hx hb dX1_prickBy_0 rfl (lv_at hl 0 rfl) ?_
  refine lv_bipush (v := 99) hx hb dX1_prickBy_1 (by decide) ?_
  refine lv_aload_n hx hb dX1_prickBy_3 rfl (lv_at hl 0 rfl) ?_
  refine va_get (ci := 1) (v := .int t_pricked) (C := RX1) (T := TX1) (N := 11) hx hb hts inlX1 hown hK.1 hP 0 rfl rfl 5 (by decide) (hts _ kw_82) (fun _ h9 => h9) rfl dX1_prickBy_4 ?_
  refine lv_iload_n hx hb dX1_prickBy_7 rfl (lv_at hl 1 rfl) ?_
  refine lv_iadd hx hb dX1_prickBy_8 ?_
  refine va_mmin hx hb (hml.trans hl.1.symm) hown (hts _ kw_413) (hts _ kw_171) (hts _ kw_172) (hts _ kw_173) (Nat.le_of_ble_eq_true rfl) (Nat.le_of_ble_eq_true rfl) (Nat.zero_le _) (Nat.zero_le _) dX1_prickBy_9 ?_
  refine lv_topi (fun q_1 hq => ?_)
  have E := x_nm_eq E hq
  refine va_put (ci := 1) (v := .int q_1) (ty := .int) (C := RX1) (T := TX1) (N := 11) hx hb hts inlX1 tyX1 tyX1_ok nmX1 hown hK.1 hP hD hS 0 rfl rfl 5 (by decide) (hts _ kw_82) (fun _ h9 => h9) rfl (tyX1_ok 5 (by decide)) rfl rfl (Nat.le_of_ble_eq_true rfl) dX1_prickBy_12 (fun H locs hP hD hS => ?_)
  have hP : va_P g.1 vwCl [(tA, .inr (1, [.int t_down, .ref tA_degrees, .ref tA_brown, .int t_core, .int t_water, .int q_1, .int t_thinSpots, .int t_seconds, .int t_gone, .int t_splitAt, .int t_steam]))] H := hP
  have hD : va_D A [(tA, .inr (1, [.int t_down, .ref tA_degrees, .ref tA_brown, .int t_core, .int t_water, .int q_1, .int t_thinSpots, .int t_seconds, .int t_gone, .int t_splitAt, .int t_steam]))] := hD
  exact RET q_1 H locs _ _ (E.symm.trans hO) hP hD hS dX1_prickBy_15
abbrev rX1_fireFaces : Room := { frames := 0, cells := 0, slots := 0, locals := 0 }
theorem vX1_fireFaces : yX1_fireFaces.cls = RX1 ∧ yX1_fireFaces.cls ≠ "java/lang/invoke/MethodHandle" ∧ yX1_fireFaces.cls ≠ "java/lang/invoke/VarHandle" ∧ (parseMethodDescriptor yX1_fireFaces.desc).map (fun d => d.parameters.length) = some 1 := by decide +kernel
abbrev wX1_fireFaces : List Cond := Cond.code yX1_fireFaces cX1_fireFaces 3 none :: wsL_law
def F_X1_fireFaces_L2 (t_down : Int32) (a1 : Int32) : Nat → Nat → (Nat → Int32) → (Nat → Int32)
  | 0, k2_3, t_degrees_4 => t_degrees_4
  | n_5 + 1, k2_3, t_degrees_4 => if 4 ≤ k2_3 then t_degrees_4 else x_nm (α := (Nat → Int32)) (if (nI k2_3) = t_down then x_nm (upd t_degrees_4 k2_3 ((t_degrees_4 k2_3) + ((a1 - (t_degrees_4 k2_3)) / 4))) fun t_degrees_11 => t_degrees_11 else x_nm (upd t_degrees_4 k2_3 ((t_degrees_4 k2_3) - (((t_degrees_4 k2_3) - 20) / 16))) fun t_degrees_10 => t_degrees_10) fun u_8 => F_X1_fireFaces_L2 t_down a1 n_5 (k2_3 + 1) u_8
def F_X1_fireFaces (t_down : Int32) (t_degrees : Nat → Int32) (a1 : Int32) : (Nat → Int32) :=
  x_nm (α := (Nat → Int32)) (F_X1_fireFaces_L2 t_down a1 (4 + 1) 0 t_degrees) fun u_2 => u_2
set_option maxHeartbeats 4000000 in
set_option maxRecDepth 100000 in
theorem m_X1_fireFaces (l : Launch) (g : x_G) (tA tA_degrees tA_brown : Nat) (t_down : Int32) (t_core : Int32) (t_water : Int32) (t_pricked : Int32) (t_thinSpots : Int32) (t_seconds : Int32) (t_gone : Int32) (t_splitAt : Int32) (t_steam : Int32) (t_degrees : Nat → Int32) (a1 : Int32) : x_MetV l yX1_fireFaces wX1_fireFaces rX1_fireFaces g [.ref tA, .int a1] [(tA, .inr (1, [.int t_down, .ref tA_degrees, .ref tA_brown, .int t_core, .int t_water, .int t_pricked, .int t_thinSpots, .int t_seconds, .int t_gone, .int t_splitAt, .int t_steam])), (tA_degrees, .inl (g.2.1 0, 4, .inl t_degrees))] (fun u : (Nat → Int32) => u = F_X1_fireFaces t_down t_degrees a1) (fun u => [(tA, .inr (1, [.int t_down, .ref tA_degrees, .ref tA_brown, .int t_core, .int t_water, .int t_pricked, .int t_thinSpots, .int t_seconds, .int t_gone, .int t_splitAt, .int t_steam])), (tA_degrees, .inl (g.2.1 0, 4, .inl u))]) := by
  refine x_startV (cc := cX1_fireFaces) (maxL := 3) (by decide) rfl (Nat.le_of_ble_eq_true rfl) ?_
  intro p e s m args below meth c Q A ls H locs hx hb hml hown hts hK hX hP hD hS hA hl RET
  have hown : s.vm.findClass RX1 = some m.cls := hown
  have hl : lv_has ls 3 [(0, .ref tA), (1, .int a1)] := hl
  obtain ⟨o_0, hO⟩ : ∃ z, z = F_X1_fireFaces t_down t_degrees a1 := ⟨_, rfl⟩
  have E := hO
  rw [F_X1_fireFaces.eq_1] at E
  refine lv_iconst (v := 0) hx hb dX1_fireFaces_0 (by decide) ?_
  refine lv_istore_n (lv' := [(2, .int 0), (0, .ref tA), (1, .int a1)]) hx hb dX1_fireFaces_1 rfl hl (by decide) rfl (fun ls hl => ?_)
  obtain ⟨o_2, E_2, E⟩ := x_nm_ex E
  have J_2 : ∀ (t_degrees_1 : Nat → Int32), o_2 = t_degrees_1 → ∀ (H : Heap) (locs : List Loc) (ls : Array Slot), va_P g.1 vwCl [(tA, .inr (1, [.int t_down, .ref tA_degrees, .ref tA_brown, .int t_core, .int t_water, .int t_pricked, .int t_thinSpots, .int t_seconds, .int t_gone, .int t_splitAt, .int t_steam])), (tA_degrees, .inl (g.2.1 0, 4, .inl t_degrees_1))] H → va_D A [(tA, .inr (1, [.int t_down, .ref tA_degrees, .ref tA_brown, .int t_core, .int t_water, .int t_pricked, .int t_thinSpots, .int t_seconds, .int t_gone, .int t_splitAt, .int t_steam])), (tA_degrees, .inl (g.2.1 0, 4, .inl t_degrees_1))] → va_S A s.heap H locs → lv_has ls 3 [] → W p l e rX1_fireFaces s m args below meth c H locs 0 0 Q (F0 m 64 ls []) := by
    intro t_degrees_1 hE  H locs ls hP hD hS hl
    try rw [hE] at E
    exact RET t_degrees_1 H locs _ _ (E.symm.trans hO) hP hD hS dX1_fireFaces_64
  have E := E_2
  have L_5 : ∀ (n_5 : Nat) (k2_3 : Nat) (t_degrees_4 : Nat → Int32), (k2_3 ≤ 4) → ((4 - k2_3) < n_5) → o_2 = F_X1_fireFaces_L2 t_down a1 n_5 k2_3 t_degrees_4 → ∀ (H : Heap) (locs : List Loc) (ls : Array Slot), va_P g.1 vwCl [(tA, .inr (1, [.int t_down, .ref tA_degrees, .ref tA_brown, .int t_core, .int t_water, .int t_pricked, .int t_thinSpots, .int t_seconds, .int t_gone, .int t_splitAt, .int t_steam])), (tA_degrees, .inl (g.2.1 0, 4, .inl t_degrees_4))] H → va_D A [(tA, .inr (1, [.int t_down, .ref tA_degrees, .ref tA_brown, .int t_core, .int t_water, .int t_pricked, .int t_thinSpots, .int t_seconds, .int t_gone, .int t_splitAt, .int t_steam])), (tA_degrees, .inl (g.2.1 0, 4, .inl t_degrees_4))] → va_S A s.heap H locs → lv_has ls 3 [(0, .ref tA), (1, .int a1), (2, .int (nI k2_3))] → W p l e rX1_fireFaces s m args below meth c H locs 0 0 Q (F0 m 2 ls []) := by
    intro n_5
    induction n_5 with
    | zero => intro k2_3 t_degrees_4 i_5_0 i_5_1; exact absurd i_5_1 (by omega)
    | succ n_5 ih_5 =>
      intro k2_3 t_degrees_4 i_5_0 i_5_1 E H locs ls hP hD hS hl
      rw [F_X1_fireFaces_L2.eq_2] at E
      refine lv_iload_n hx hb dX1_fireFaces_2 rfl (lv_at hl 2 rfl) ?_
      refine lv_iconst (v := 4) hx hb dX1_fireFaces_3 (by decide) ?_
      refine x_icmp_ge (a := k2_3) (b := 4) (tgt := 64) hx hb (by omega) (by omega) dX1_fireFaces_4 (by decide) (fun c_6 => ?_) (fun c_6 => ?_)
      · have E := x_pos E c_6
        exact J_2 t_degrees_4 E  H locs ls hP hD hS (lv_sub hl [] rfl)
      · have E := x_neg E c_6
        refine lv_iload_n hx hb dX1_fireFaces_7 rfl (lv_at hl 2 rfl) ?_
        refine lv_aload_n hx hb dX1_fireFaces_8 rfl (lv_at hl 0 rfl) ?_
        refine va_get (ci := 1) (v := .int t_down) (C := RX1) (T := TX1) (N := 11) hx hb hts inlX1 hown hK.1 hP 0 rfl rfl 0 (by decide) (hts _ kw_79) (fun _ h9 => h9) rfl dX1_fireFaces_9 ?_
        obtain ⟨o_8, E_8, E⟩ := x_nm_ex E
        have J_8 : ∀ (t_degrees_7 : Nat → Int32), o_8 = t_degrees_7 → ∀ (H : Heap) (locs : List Loc) (ls : Array Slot), va_P g.1 vwCl [(tA, .inr (1, [.int t_down, .ref tA_degrees, .ref tA_brown, .int t_core, .int t_water, .int t_pricked, .int t_thinSpots, .int t_seconds, .int t_gone, .int t_splitAt, .int t_steam])), (tA_degrees, .inl (g.2.1 0, 4, .inl t_degrees_7))] H → va_D A [(tA, .inr (1, [.int t_down, .ref tA_degrees, .ref tA_brown, .int t_core, .int t_water, .int t_pricked, .int t_thinSpots, .int t_seconds, .int t_gone, .int t_splitAt, .int t_steam])), (tA_degrees, .inl (g.2.1 0, 4, .inl t_degrees_7))] → va_S A s.heap H locs → lv_has ls 3 [(0, .ref tA), (1, .int a1), (2, .int (nI k2_3))] → W p l e rX1_fireFaces s m args below meth c H locs 0 0 Q (F0 m 58 ls []) := by
          intro t_degrees_7 hE  H locs ls hP hD hS hl
          try rw [hE] at E
          refine lv_iinc (v := nI (k2_3 + 1)) (lv' := [(2, .int (nI (k2_3 + 1))), (0, .ref tA), (1, .int a1)]) hx hb dX1_fireFaces_58 hl (k := 2) rfl (nI_1 k2_3) (by decide) rfl (fun ls hl => ?_)
          refine lv_goto (tgt := 2) hx hb dX1_fireFaces_61 (by decide) ?_
          exact ih_5 (k2_3 + 1) t_degrees_7 (by first | omega | assumption | exact Eq.trans (by assumption) (by assumption)) (by omega) E H locs ls hP hD hS (lv_sub hl [1, 2, 0] rfl)
        have E := E_8
        refine x_icmp_neI (tgt := 37) hx hb dX1_fireFaces_12 (by decide) (fun c_9 => ?_) (fun c_9 => ?_)
        · have E := x_neg E c_9
          refine lv_aload_n hx hb dX1_fireFaces_37 rfl (lv_at hl 0 rfl) ?_
          refine va_get (ci := 1) (v := .ref tA_degrees) (C := RX1) (T := TX1) (N := 11) hx hb hts inlX1 hown hK.1 hP 0 rfl rfl 1 (by decide) (hts _ kw_68) (fun _ h9 => h9) rfl dX1_fireFaces_38 ?_
          refine lv_iload_n hx hb dX1_fireFaces_41 rfl (lv_at hl 2 rfl) ?_
          refine lv_dup2_11 hx hb dX1_fireFaces_42 rfl rfl ?_
          refine x_ialdN hx hb hK hP 1 k2_3 rfl (by omega) (by decide) dX1_fireFaces_43 ?_
          refine lv_aload_n hx hb dX1_fireFaces_44 rfl (lv_at hl 0 rfl) ?_
          refine va_get (ci := 1) (v := .ref tA_degrees) (C := RX1) (T := TX1) (N := 11) hx hb hts inlX1 hown hK.1 hP 0 rfl rfl 1 (by decide) (hts _ kw_68) (fun _ h9 => h9) rfl dX1_fireFaces_45 ?_
          refine lv_iload_n hx hb dX1_fireFaces_48 rfl (lv_at hl 2 rfl) ?_
          refine x_ialdN hx hb hK hP 1 k2_3 rfl (by omega) (by decide) dX1_fireFaces_49 ?_
          refine lv_bipush (v := 20) hx hb dX1_fireFaces_50 (by decide) ?_
          refine lv_isub hx hb dX1_fireFaces_52 ?_
          refine lv_bipush (v := 16) hx hb dX1_fireFaces_53 (by decide) ?_
          refine lv_idiv hx hb dX1_fireFaces_55 (by decide) ?_
          refine lv_isub hx hb dX1_fireFaces_56 ?_
          refine x_iastN hx hb hK hP hD hS 1 k2_3 rfl (by omega) (by decide) dX1_fireFaces_57 (fun t_degrees_10 H locs hf hP hD hS => ?_)
          have hP : va_P g.1 vwCl [(tA, .inr (1, [.int t_down, .ref tA_degrees, .ref tA_brown, .int t_core, .int t_water, .int t_pricked, .int t_thinSpots, .int t_seconds, .int t_gone, .int t_splitAt, .int t_steam])), (tA_degrees, .inl (g.2.1 0, 4, .inl t_degrees_10))] H := hP
          have hD : va_D A [(tA, .inr (1, [.int t_down, .ref tA_degrees, .ref tA_brown, .int t_core, .int t_water, .int t_pricked, .int t_thinSpots, .int t_seconds, .int t_gone, .int t_splitAt, .int t_steam])), (tA_degrees, .inl (g.2.1 0, 4, .inl t_degrees_10))] := hD
          have E := x_nm_eq E hf
          exact J_8 t_degrees_10 E  H locs ls hP hD hS (lv_sub hl [0, 1, 2] rfl)
        · have E := x_pos E c_9
          refine lv_aload_n hx hb dX1_fireFaces_15 rfl (lv_at hl 0 rfl) ?_
          refine va_get (ci := 1) (v := .ref tA_degrees) (C := RX1) (T := TX1) (N := 11) hx hb hts inlX1 hown hK.1 hP 0 rfl rfl 1 (by decide) (hts _ kw_68) (fun _ h9 => h9) rfl dX1_fireFaces_16 ?_
          refine lv_iload_n hx hb dX1_fireFaces_19 rfl (lv_at hl 2 rfl) ?_
          refine lv_dup2_11 hx hb dX1_fireFaces_20 rfl rfl ?_
          refine x_ialdN hx hb hK hP 1 k2_3 rfl (by omega) (by decide) dX1_fireFaces_21 ?_
          refine lv_iload_n hx hb dX1_fireFaces_22 rfl (lv_at hl 1 rfl) ?_
          refine lv_aload_n hx hb dX1_fireFaces_23 rfl (lv_at hl 0 rfl) ?_
          refine va_get (ci := 1) (v := .ref tA_degrees) (C := RX1) (T := TX1) (N := 11) hx hb hts inlX1 hown hK.1 hP 0 rfl rfl 1 (by decide) (hts _ kw_68) (fun _ h9 => h9) rfl dX1_fireFaces_24 ?_
          refine lv_iload_n hx hb dX1_fireFaces_27 rfl (lv_at hl 2 rfl) ?_
          refine x_ialdN hx hb hK hP 1 k2_3 rfl (by omega) (by decide) dX1_fireFaces_28 ?_
          refine lv_isub hx hb dX1_fireFaces_29 ?_
          refine lv_iconst (v := 4) hx hb dX1_fireFaces_30 (by decide) ?_
          refine lv_idiv hx hb dX1_fireFaces_31 (by decide) ?_
          refine lv_iadd hx hb dX1_fireFaces_32 ?_
          refine x_iastN hx hb hK hP hD hS 1 k2_3 rfl (by omega) (by decide) dX1_fireFaces_33 (fun t_degrees_11 H locs hf hP hD hS => ?_)
          have hP : va_P g.1 vwCl [(tA, .inr (1, [.int t_down, .ref tA_degrees, .ref tA_brown, .int t_core, .int t_water, .int t_pricked, .int t_thinSpots, .int t_seconds, .int t_gone, .int t_splitAt, .int t_steam])), (tA_degrees, .inl (g.2.1 0, 4, .inl t_degrees_11))] H := hP
          have hD : va_D A [(tA, .inr (1, [.int t_down, .ref tA_degrees, .ref tA_brown, .int t_core, .int t_water, .int t_pricked, .int t_thinSpots, .int t_seconds, .int t_gone, .int t_splitAt, .int t_steam])), (tA_degrees, .inl (g.2.1 0, 4, .inl t_degrees_11))] := hD
          have E := x_nm_eq E hf
          refine lv_goto (tgt := 58) hx hb dX1_fireFaces_34 (by decide) ?_
          exact J_8 t_degrees_11 E  H locs ls hP hD hS (lv_sub hl [0, 1, 2] rfl)
  exact L_5 (4 + 1) 0 t_degrees (by first | omega | assumption | rfl) (by omega) E H locs ls hP hD hS (lv_sub hl [1, 2, 0] rfl)
abbrev rX1_simmerFaces : Room := { frames := 0, cells := 0, slots := 0, locals := 0 }
theorem vX1_simmerFaces : yX1_simmerFaces.cls = RX1 ∧ yX1_simmerFaces.cls ≠ "java/lang/invoke/MethodHandle" ∧ yX1_simmerFaces.cls ≠ "java/lang/invoke/VarHandle" ∧ (parseMethodDescriptor yX1_simmerFaces.desc).map (fun d => d.parameters.length) = some 1 := by decide +kernel
abbrev wX1_simmerFaces : List Cond := Cond.code yX1_simmerFaces cX1_simmerFaces 3 none :: wsL_law
def F_X1_simmerFaces_L2 (a1 : Int32) : Nat → Nat → (Nat → Int32) → (Nat → Int32)
  | 0, k2_3, t_degrees_4 => t_degrees_4
  | n_5 + 1, k2_3, t_degrees_4 => if 4 ≤ k2_3 then t_degrees_4 else x_nm (upd t_degrees_4 k2_3 ((t_degrees_4 k2_3) + ((a1 - (t_degrees_4 k2_3)) / 4))) fun t_degrees_7 => F_X1_simmerFaces_L2 a1 n_5 (k2_3 + 1) t_degrees_7
def F_X1_simmerFaces (t_degrees : Nat → Int32) (a1 : Int32) : (Nat → Int32) :=
  x_nm (α := (Nat → Int32)) (F_X1_simmerFaces_L2 a1 (4 + 1) 0 t_degrees) fun u_2 => u_2
set_option maxHeartbeats 4000000 in
set_option maxRecDepth 100000 in
theorem m_X1_simmerFaces (l : Launch) (g : x_G) (tA tA_degrees tA_brown : Nat) (t_down : Int32) (t_core : Int32) (t_water : Int32) (t_pricked : Int32) (t_thinSpots : Int32) (t_seconds : Int32) (t_gone : Int32) (t_splitAt : Int32) (t_steam : Int32) (t_degrees : Nat → Int32) (a1 : Int32) : x_MetV l yX1_simmerFaces wX1_simmerFaces rX1_simmerFaces g [.ref tA, .int a1] [(tA, .inr (1, [.int t_down, .ref tA_degrees, .ref tA_brown, .int t_core, .int t_water, .int t_pricked, .int t_thinSpots, .int t_seconds, .int t_gone, .int t_splitAt, .int t_steam])), (tA_degrees, .inl (g.2.1 0, 4, .inl t_degrees))] (fun u : (Nat → Int32) => u = F_X1_simmerFaces t_degrees a1) (fun u => [(tA, .inr (1, [.int t_down, .ref tA_degrees, .ref tA_brown, .int t_core, .int t_water, .int t_pricked, .int t_thinSpots, .int t_seconds, .int t_gone, .int t_splitAt, .int t_steam])), (tA_degrees, .inl (g.2.1 0, 4, .inl u))]) := by
  refine x_startV (cc := cX1_simmerFaces) (maxL := 3) (by decide) rfl (Nat.le_of_ble_eq_true rfl) ?_
  intro p e s m args below meth c Q A ls H locs hx hb hml hown hts hK hX hP hD hS hA hl RET
  have hown : s.vm.findClass RX1 = some m.cls := hown
  have hl : lv_has ls 3 [(0, .ref tA), (1, .int a1)] := hl
  obtain ⟨o_0, hO⟩ : ∃ z, z = F_X1_simmerFaces t_degrees a1 := ⟨_, rfl⟩
  have E := hO
  rw [F_X1_simmerFaces.eq_1] at E
  refine lv_iconst (v := 0) hx hb dX1_simmerFaces_0 (by decide) ?_
  refine lv_istore_n (lv' := [(2, .int 0), (0, .ref tA), (1, .int a1)]) hx hb dX1_simmerFaces_1 rfl hl (by decide) rfl (fun ls hl => ?_)
  obtain ⟨o_2, E_2, E⟩ := x_nm_ex E
  have J_2 : ∀ (t_degrees_1 : Nat → Int32), o_2 = t_degrees_1 → ∀ (H : Heap) (locs : List Loc) (ls : Array Slot), va_P g.1 vwCl [(tA, .inr (1, [.int t_down, .ref tA_degrees, .ref tA_brown, .int t_core, .int t_water, .int t_pricked, .int t_thinSpots, .int t_seconds, .int t_gone, .int t_splitAt, .int t_steam])), (tA_degrees, .inl (g.2.1 0, 4, .inl t_degrees_1))] H → va_D A [(tA, .inr (1, [.int t_down, .ref tA_degrees, .ref tA_brown, .int t_core, .int t_water, .int t_pricked, .int t_thinSpots, .int t_seconds, .int t_gone, .int t_splitAt, .int t_steam])), (tA_degrees, .inl (g.2.1 0, 4, .inl t_degrees_1))] → va_S A s.heap H locs → lv_has ls 3 [] → W p l e rX1_simmerFaces s m args below meth c H locs 0 0 Q (F0 m 32 ls []) := by
    intro t_degrees_1 hE  H locs ls hP hD hS hl
    try rw [hE] at E
    exact RET t_degrees_1 H locs _ _ (E.symm.trans hO) hP hD hS dX1_simmerFaces_32
  have E := E_2
  have L_5 : ∀ (n_5 : Nat) (k2_3 : Nat) (t_degrees_4 : Nat → Int32), (k2_3 ≤ 4) → ((4 - k2_3) < n_5) → o_2 = F_X1_simmerFaces_L2 a1 n_5 k2_3 t_degrees_4 → ∀ (H : Heap) (locs : List Loc) (ls : Array Slot), va_P g.1 vwCl [(tA, .inr (1, [.int t_down, .ref tA_degrees, .ref tA_brown, .int t_core, .int t_water, .int t_pricked, .int t_thinSpots, .int t_seconds, .int t_gone, .int t_splitAt, .int t_steam])), (tA_degrees, .inl (g.2.1 0, 4, .inl t_degrees_4))] H → va_D A [(tA, .inr (1, [.int t_down, .ref tA_degrees, .ref tA_brown, .int t_core, .int t_water, .int t_pricked, .int t_thinSpots, .int t_seconds, .int t_gone, .int t_splitAt, .int t_steam])), (tA_degrees, .inl (g.2.1 0, 4, .inl t_degrees_4))] → va_S A s.heap H locs → lv_has ls 3 [(0, .ref tA), (1, .int a1), (2, .int (nI k2_3))] → W p l e rX1_simmerFaces s m args below meth c H locs 0 0 Q (F0 m 2 ls []) := by
    intro n_5
    induction n_5 with
    | zero => intro k2_3 t_degrees_4 i_5_0 i_5_1; exact absurd i_5_1 (by omega)
    | succ n_5 ih_5 =>
      intro k2_3 t_degrees_4 i_5_0 i_5_1 E H locs ls hP hD hS hl
      rw [F_X1_simmerFaces_L2.eq_2] at E
      refine lv_iload_n hx hb dX1_simmerFaces_2 rfl (lv_at hl 2 rfl) ?_
      refine lv_iconst (v := 4) hx hb dX1_simmerFaces_3 (by decide) ?_
      refine x_icmp_ge (a := k2_3) (b := 4) (tgt := 32) hx hb (by omega) (by omega) dX1_simmerFaces_4 (by decide) (fun c_6 => ?_) (fun c_6 => ?_)
      · have E := x_pos E c_6
        exact J_2 t_degrees_4 E  H locs ls hP hD hS (lv_sub hl [] rfl)
      · have E := x_neg E c_6
        refine lv_aload_n hx hb dX1_simmerFaces_7 rfl (lv_at hl 0 rfl) ?_
        refine va_get (ci := 1) (v := .ref tA_degrees) (C := RX1) (T := TX1) (N := 11) hx hb hts inlX1 hown hK.1 hP 0 rfl rfl 1 (by decide) (hts _ kw_68) (fun _ h9 => h9) rfl dX1_simmerFaces_8 ?_
        refine lv_iload_n hx hb dX1_simmerFaces_11 rfl (lv_at hl 2 rfl) ?_
        refine lv_dup2_11 hx hb dX1_simmerFaces_12 rfl rfl ?_
        refine x_ialdN hx hb hK hP 1 k2_3 rfl (by omega) (by decide) dX1_simmerFaces_13 ?_
        refine lv_iload_n hx hb dX1_simmerFaces_14 rfl (lv_at hl 1 rfl) ?_
        refine lv_aload_n hx hb dX1_simmerFaces_15 rfl (lv_at hl 0 rfl) ?_
        refine va_get (ci := 1) (v := .ref tA_degrees) (C := RX1) (T := TX1) (N := 11) hx hb hts inlX1 hown hK.1 hP 0 rfl rfl 1 (by decide) (hts _ kw_68) (fun _ h9 => h9) rfl dX1_simmerFaces_16 ?_
        refine lv_iload_n hx hb dX1_simmerFaces_19 rfl (lv_at hl 2 rfl) ?_
        refine x_ialdN hx hb hK hP 1 k2_3 rfl (by omega) (by decide) dX1_simmerFaces_20 ?_
        refine lv_isub hx hb dX1_simmerFaces_21 ?_
        refine lv_iconst (v := 4) hx hb dX1_simmerFaces_22 (by decide) ?_
        refine lv_idiv hx hb dX1_simmerFaces_23 (by decide) ?_
        refine lv_iadd hx hb dX1_simmerFaces_24 ?_
        refine x_iastN hx hb hK hP hD hS 1 k2_3 rfl (by omega) (by decide) dX1_simmerFaces_25 (fun t_degrees_7 H locs hf hP hD hS => ?_)
        have hP : va_P g.1 vwCl [(tA, .inr (1, [.int t_down, .ref tA_degrees, .ref tA_brown, .int t_core, .int t_water, .int t_pricked, .int t_thinSpots, .int t_seconds, .int t_gone, .int t_splitAt, .int t_steam])), (tA_degrees, .inl (g.2.1 0, 4, .inl t_degrees_7))] H := hP
        have hD : va_D A [(tA, .inr (1, [.int t_down, .ref tA_degrees, .ref tA_brown, .int t_core, .int t_water, .int t_pricked, .int t_thinSpots, .int t_seconds, .int t_gone, .int t_splitAt, .int t_steam])), (tA_degrees, .inl (g.2.1 0, 4, .inl t_degrees_7))] := hD
        have E := x_nm_eq E hf
        refine lv_iinc (v := nI (k2_3 + 1)) (lv' := [(2, .int (nI (k2_3 + 1))), (0, .ref tA), (1, .int a1)]) hx hb dX1_simmerFaces_26 hl (k := 2) rfl (nI_1 k2_3) (by decide) rfl (fun ls hl => ?_)
        refine lv_goto (tgt := 2) hx hb dX1_simmerFaces_29 (by decide) ?_
        exact ih_5 (k2_3 + 1) t_degrees_7 (by first | omega | assumption | exact Eq.trans (by assumption) (by assumption)) (by omega) E H locs ls hP hD hS (lv_sub hl [1, 2, 0] rfl)
  exact L_5 (4 + 1) 0 t_degrees (by first | omega | assumption | rfl) (by omega) E H locs ls hP hD hS (lv_sub hl [1, 2, 0] rfl)
abbrev rX1_warmCore : Room := { frames := 1, cells := 0, slots := 0, locals := 21 }
theorem vX1_warmCore : yX1_warmCore.cls = RX1 ∧ yX1_warmCore.cls ≠ "java/lang/invoke/MethodHandle" ∧ yX1_warmCore.cls ≠ "java/lang/invoke/VarHandle" ∧ (parseMethodDescriptor yX1_warmCore.desc).map (fun d => d.parameters.length) = some 1 := by decide +kernel
abbrev wX1_warmCore : List Cond := Cond.code yX1_warmCore cX1_warmCore 4 none :: wsL_law
def F_X1_warmCore_L4 (t_degrees : Nat → Int32) : Nat → Int32 → Nat → Int32
  | 0, l2_4, k3_5 => l2_4
  | n_6 + 1, l2_4, k3_5 => if 4 ≤ k3_5 then l2_4 else F_X1_warmCore_L4 t_degrees n_6 (l2_4 + (t_degrees k3_5)) (k3_5 + 1)
def F_X1_warmCore (t_degrees : Nat → Int32) (t_core : Int32) (r_radius : Int32) : Int32 :=
  x_nm (α := Int32) (F_X1_warmCore_L4 t_degrees (4 + 1) 0 0) fun u_2 => x_nm (if (1 : Int32) < (8 * r_radius) then (8 * r_radius) else (1 : Int32)) fun q_3 => t_core + ((u_2 - (4 * t_core)) / q_3)
set_option maxHeartbeats 4000000 in
set_option maxRecDepth 100000 in
theorem m_X1_warmCore (l : Launch) (g : x_G) (tA tA_degrees rA tA_brown rA_kinds rA_firsts rA_seconds : Nat) (t_down : Int32) (t_core : Int32) (t_water : Int32) (t_pricked : Int32) (t_thinSpots : Int32) (t_seconds : Int32) (t_gone : Int32) (t_splitAt : Int32) (t_steam : Int32) (t_degrees : Nat → Int32) (r_radius : Int32) (r_skin : Int32) (r_filling : Int32) (r_water : Int32) (r_ends : Int32) (r_thin : Int32) (r_chance : Int32) (r_bentFace : Int32) (r_bentBy : Int32) (r_doings : Nat) : x_MetV l yX1_warmCore wX1_warmCore rX1_warmCore g [.ref tA, .ref rA] [(tA, .inr (1, [.int t_down, .ref tA_degrees, .ref tA_brown, .int t_core, .int t_water, .int t_pricked, .int t_thinSpots, .int t_seconds, .int t_gone, .int t_splitAt, .int t_steam])), (tA_degrees, .inl (g.2.1 0, 4, .inl t_degrees)), (rA, .inr (3, [.int r_radius, .int r_skin, .int r_filling, .int r_water, .int r_ends, .int r_thin, .int r_chance, .int r_bentFace, .int r_bentBy, .int (nI r_doings), .ref rA_kinds, .ref rA_firsts, .ref rA_seconds]))] (fun u : Int32 => u = F_X1_warmCore t_degrees t_core r_radius) (fun u => [(tA, .inr (1, [.int t_down, .ref tA_degrees, .ref tA_brown, .int u, .int t_water, .int t_pricked, .int t_thinSpots, .int t_seconds, .int t_gone, .int t_splitAt, .int t_steam])), (tA_degrees, .inl (g.2.1 0, 4, .inl t_degrees)), (rA, .inr (3, [.int r_radius, .int r_skin, .int r_filling, .int r_water, .int r_ends, .int r_thin, .int r_chance, .int r_bentFace, .int r_bentBy, .int (nI r_doings), .ref rA_kinds, .ref rA_firsts, .ref rA_seconds]))]) := by
  refine x_startV (cc := cX1_warmCore) (maxL := 4) (by decide) rfl (Nat.le_of_ble_eq_true rfl) ?_
  intro p e s m args below meth c Q A ls H locs hx hb hml hown hts hK hX hP hD hS hA hl RET
  have hown : s.vm.findClass RX1 = some m.cls := hown
  have hl : lv_has ls 4 [(0, .ref tA), (1, .ref rA)] := hl
  obtain ⟨o_0, hO⟩ : ∃ z, z = F_X1_warmCore t_degrees t_core r_radius := ⟨_, rfl⟩
  have E := hO
  rw [F_X1_warmCore.eq_1] at E
  refine lv_iconst (v := 0) hx hb dX1_warmCore_0 (by decide) ?_
  refine lv_istore_n (lv' := [(2, .int 0), (0, .ref tA), (1, .ref rA)]) hx hb dX1_warmCore_1 rfl hl (by decide) rfl (fun ls hl => ?_)
  refine lv_iconst (v := 0) hx hb dX1_warmCore_2 (by decide) ?_
  refine lv_istore_n (lv' := [(3, .int 0), (2, .int 0), (0, .ref tA), (1, .ref rA)]) hx hb dX1_warmCore_3 rfl hl (by decide) rfl (fun ls hl => ?_)
  obtain ⟨o_2, E_2, E⟩ := x_nm_ex E
  have J_2 : ∀ (l2_1 : Int32), o_2 = l2_1 → ∀ (H : Heap) (locs : List Loc) (ls : Array Slot), va_P g.1 vwCl [(tA, .inr (1, [.int t_down, .ref tA_degrees, .ref tA_brown, .int t_core, .int t_water, .int t_pricked, .int t_thinSpots, .int t_seconds, .int t_gone, .int t_splitAt, .int t_steam])), (tA_degrees, .inl (g.2.1 0, 4, .inl t_degrees)), (rA, .inr (3, [.int r_radius, .int r_skin, .int r_filling, .int r_water, .int r_ends, .int r_thin, .int r_chance, .int r_bentFace, .int r_bentBy, .int (nI r_doings), .ref rA_kinds, .ref rA_firsts, .ref rA_seconds]))] H → va_D A [(tA, .inr (1, [.int t_down, .ref tA_degrees, .ref tA_brown, .int t_core, .int t_water, .int t_pricked, .int t_thinSpots, .int t_seconds, .int t_gone, .int t_splitAt, .int t_steam])), (tA_degrees, .inl (g.2.1 0, 4, .inl t_degrees)), (rA, .inr (3, [.int r_radius, .int r_skin, .int r_filling, .int r_water, .int r_ends, .int r_thin, .int r_chance, .int r_bentFace, .int r_bentBy, .int (nI r_doings), .ref rA_kinds, .ref rA_firsts, .ref rA_seconds]))] → va_S A s.heap H locs → lv_has ls 4 [(0, .ref tA), (1, .ref rA), (2, .int l2_1)] → W p l e rX1_warmCore s m args below meth c H locs 0 0 Q (F0 m 24 ls []) := by
    intro l2_1 hE  H locs ls hP hD hS hl
    try rw [hE] at E
    refine lv_aload_n hx hb dX1_warmCore_24 rfl (lv_at hl 0 rfl) ?_
    refine lv_dup hx hb dX1_warmCore_25 rfl ?_
    refine va_get (ci := 1) (v := .int t_core) (C := RX1) (T := TX1) (N := 11) hx hb hts inlX1 hown hK.1 hP 0 rfl rfl 3 (by decide) (hts _ kw_80) (fun _ h9 => h9) rfl dX1_warmCore_26 ?_
    refine lv_iload_n hx hb dX1_warmCore_29 rfl (lv_at hl 2 rfl) ?_
    refine lv_iconst (v := 4) hx hb dX1_warmCore_30 (by decide) ?_
    refine lv_aload_n hx hb dX1_warmCore_31 rfl (lv_at hl 0 rfl) ?_
    refine va_get (ci := 1) (v := .int t_core) (C := RX1) (T := TX1) (N := 11) hx hb hts inlX1 hown hK.1 hP 0 rfl rfl 3 (by decide) (hts _ kw_80) (fun _ h9 => h9) rfl dX1_warmCore_32 ?_
    refine lv_imul hx hb dX1_warmCore_35 ?_
    refine lv_isub hx hb dX1_warmCore_36 ?_
    refine lv_iconst (v := 1) hx hb dX1_warmCore_37 (by decide) ?_
    refine lv_bipush (v := 8) hx hb dX1_warmCore_38 (by decide) ?_
    refine lv_aload_n hx hb dX1_warmCore_40 rfl (lv_at hl 1 rfl) ?_
    refine va_get (ci := 3) (v := .int r_radius) (C := RX3) (T := TX3) (N := 13) hx hb hts inlX3 hown hK.1 hP 2 rfl rfl 0 (by decide) (hts _ kw_401) (fun _ h9 => h9) rfl dX1_warmCore_41 ?_
    refine lv_imul hx hb dX1_warmCore_44 ?_
    refine va_mmax hx hb (hml.trans hl.1.symm) hown (hts _ kw_402) (hts _ kw_403) (hts _ kw_172) (hts _ kw_404) (Nat.le_of_ble_eq_true rfl) (Nat.le_of_ble_eq_true rfl) (Nat.zero_le _) (Nat.zero_le _) dX1_warmCore_45 ?_
    refine lv_topi (fun q_3 hq => ?_)
    have E := x_nm_eq E hq
    refine lv_idiv hx hb dX1_warmCore_48 (by rw [hq]; exact x_max1 _) ?_
    refine lv_iadd hx hb dX1_warmCore_49 ?_
    refine va_put (ci := 1) (v := .int (t_core + ((l2_1 - (4 * t_core)) / q_3))) (ty := .int) (C := RX1) (T := TX1) (N := 11) hx hb hts inlX1 tyX1 tyX1_ok nmX1 hown hK.1 hP hD hS 0 rfl rfl 3 (by decide) (hts _ kw_80) (fun _ h9 => h9) rfl (tyX1_ok 3 (by decide)) rfl rfl (Nat.le_of_ble_eq_true rfl) dX1_warmCore_50 (fun H locs hP hD hS => ?_)
    have hP : va_P g.1 vwCl [(tA, .inr (1, [.int t_down, .ref tA_degrees, .ref tA_brown, .int (t_core + ((l2_1 - (4 * t_core)) / q_3)), .int t_water, .int t_pricked, .int t_thinSpots, .int t_seconds, .int t_gone, .int t_splitAt, .int t_steam])), (tA_degrees, .inl (g.2.1 0, 4, .inl t_degrees)), (rA, .inr (3, [.int r_radius, .int r_skin, .int r_filling, .int r_water, .int r_ends, .int r_thin, .int r_chance, .int r_bentFace, .int r_bentBy, .int (nI r_doings), .ref rA_kinds, .ref rA_firsts, .ref rA_seconds]))] H := hP
    have hD : va_D A [(tA, .inr (1, [.int t_down, .ref tA_degrees, .ref tA_brown, .int (t_core + ((l2_1 - (4 * t_core)) / q_3)), .int t_water, .int t_pricked, .int t_thinSpots, .int t_seconds, .int t_gone, .int t_splitAt, .int t_steam])), (tA_degrees, .inl (g.2.1 0, 4, .inl t_degrees)), (rA, .inr (3, [.int r_radius, .int r_skin, .int r_filling, .int r_water, .int r_ends, .int r_thin, .int r_chance, .int r_bentFace, .int r_bentBy, .int (nI r_doings), .ref rA_kinds, .ref rA_firsts, .ref rA_seconds]))] := hD
    exact RET (t_core + ((l2_1 - (4 * t_core)) / q_3)) H locs _ _ (E.symm.trans hO) hP hD hS dX1_warmCore_53
  have E := E_2
  have L_6 : ∀ (n_6 : Nat) (l2_4 : Int32) (k3_5 : Nat), (k3_5 ≤ 4) → ((4 - k3_5) < n_6) → o_2 = F_X1_warmCore_L4 t_degrees n_6 l2_4 k3_5 → ∀ (H : Heap) (locs : List Loc) (ls : Array Slot), va_P g.1 vwCl [(tA, .inr (1, [.int t_down, .ref tA_degrees, .ref tA_brown, .int t_core, .int t_water, .int t_pricked, .int t_thinSpots, .int t_seconds, .int t_gone, .int t_splitAt, .int t_steam])), (tA_degrees, .inl (g.2.1 0, 4, .inl t_degrees)), (rA, .inr (3, [.int r_radius, .int r_skin, .int r_filling, .int r_water, .int r_ends, .int r_thin, .int r_chance, .int r_bentFace, .int r_bentBy, .int (nI r_doings), .ref rA_kinds, .ref rA_firsts, .ref rA_seconds]))] H → va_D A [(tA, .inr (1, [.int t_down, .ref tA_degrees, .ref tA_brown, .int t_core, .int t_water, .int t_pricked, .int t_thinSpots, .int t_seconds, .int t_gone, .int t_splitAt, .int t_steam])), (tA_degrees, .inl (g.2.1 0, 4, .inl t_degrees)), (rA, .inr (3, [.int r_radius, .int r_skin, .int r_filling, .int r_water, .int r_ends, .int r_thin, .int r_chance, .int r_bentFace, .int r_bentBy, .int (nI r_doings), .ref rA_kinds, .ref rA_firsts, .ref rA_seconds]))] → va_S A s.heap H locs → lv_has ls 4 [(0, .ref tA), (1, .ref rA), (2, .int l2_4), (3, .int (nI k3_5))] → W p l e rX1_warmCore s m args below meth c H locs 0 0 Q (F0 m 4 ls []) := by
    intro n_6
    induction n_6 with
    | zero => intro l2_4 k3_5 i_6_0 i_6_1; exact absurd i_6_1 (by omega)
    | succ n_6 ih_6 =>
      intro l2_4 k3_5 i_6_0 i_6_1 E H locs ls hP hD hS hl
      rw [F_X1_warmCore_L4.eq_2] at E
      refine lv_iload_n hx hb dX1_warmCore_4 rfl (lv_at hl 3 rfl) ?_
      refine lv_iconst (v := 4) hx hb dX1_warmCore_5 (by decide) ?_
      refine x_icmp_ge (a := k3_5) (b := 4) (tgt := 24) hx hb (by omega) (by omega) dX1_warmCore_6 (by decide) (fun c_7 => ?_) (fun c_7 => ?_)
      · have E := x_pos E c_7
        exact J_2 l2_4 E  H locs ls hP hD hS (lv_sub hl [0, 1, 2] rfl)
      · have E := x_neg E c_7
        refine lv_iload_n hx hb dX1_warmCore_9 rfl (lv_at hl 2 rfl) ?_
        refine lv_aload_n hx hb dX1_warmCore_10 rfl (lv_at hl 0 rfl) ?_
        refine va_get (ci := 1) (v := .ref tA_degrees) (C := RX1) (T := TX1) (N := 11) hx hb hts inlX1 hown hK.1 hP 0 rfl rfl 1 (by decide) (hts _ kw_68) (fun _ h9 => h9) rfl dX1_warmCore_11 ?_
        refine lv_iload_n hx hb dX1_warmCore_14 rfl (lv_at hl 3 rfl) ?_
        refine x_ialdN hx hb hK hP 1 k3_5 rfl (by omega) (by decide) dX1_warmCore_15 ?_
        refine lv_iadd hx hb dX1_warmCore_16 ?_
        refine lv_istore_n (lv' := [(2, .int (l2_4 + (t_degrees k3_5))), (0, .ref tA), (1, .ref rA), (3, .int (nI k3_5))]) hx hb dX1_warmCore_17 rfl hl (by decide) rfl (fun ls hl => ?_)
        refine lv_iinc (v := nI (k3_5 + 1)) (lv' := [(3, .int (nI (k3_5 + 1))), (2, .int (l2_4 + (t_degrees k3_5))), (0, .ref tA), (1, .ref rA)]) hx hb dX1_warmCore_18 hl (k := 3) rfl (nI_1 k3_5) (by decide) rfl (fun ls hl => ?_)
        refine lv_goto (tgt := 4) hx hb dX1_warmCore_21 (by decide) ?_
        exact ih_6 (l2_4 + (t_degrees k3_5)) (k3_5 + 1) (by first | omega | assumption | exact Eq.trans (by assumption) (by assumption)) (by omega) E H locs ls hP hD hS (lv_sub hl [2, 3, 1, 0] rfl)
  exact L_6 (4 + 1) 0 0 (by first | omega | assumption | rfl) (by omega) E H locs ls hP hD hS (lv_sub hl [2, 3, 1, 0] rfl)
abbrev rX1_boil : Room := { frames := 1, cells := 0, slots := 0, locals := 21 }
theorem vX1_boil : yX1_boil.cls = RX1 ∧ yX1_boil.cls ≠ "java/lang/invoke/MethodHandle" ∧ yX1_boil.cls ≠ "java/lang/invoke/VarHandle" ∧ (parseMethodDescriptor yX1_boil.desc).map (fun d => d.parameters.length) = some 0 := by decide +kernel
abbrev wX1_boil : List Cond := Cond.code yX1_boil cX1_boil 3 none :: wsL_law
def F_X1_boil_L7 (t_degrees : Nat → Int32) : Nat → Int32 → Nat → Int32
  | 0, l1_11, k2_12 => l1_11
  | n_13 + 1, l1_11, k2_12 => if 4 ≤ k2_12 then l1_11 else x_nm (if l1_11 < (t_degrees k2_12) then (t_degrees k2_12) else l1_11) fun q_15 => F_X1_boil_L7 t_degrees n_13 q_15 (k2_12 + 1)
def F_X1_boil (t_degrees : Nat → Int32) (t_core : Int32) (t_water : Int32) (t_pricked : Int32) : Int32 × Int32 :=
  x_nm (α := Int32) (F_X1_boil_L7 t_degrees (4 + 1) t_core 0) fun u_2 => x_nm (α := Int32) (if t_water ≤ 0 then 0 else x_nm (if (0 : Int32) < (u_2 - 100) then (u_2 - 100) else (0 : Int32)) fun q_10 => q_10) fun u_4 => x_nm (α := Int32) (if t_core ≤ 60 then 0 else t_pricked / 3) fun u_6 => x_nm (if (0 : Int32) < (t_water - ((u_4 / 20) + u_6)) then (t_water - ((u_4 / 20) + u_6)) else (0 : Int32)) fun q_7 => (q_7, u_4)
set_option maxHeartbeats 4000000 in
set_option maxRecDepth 100000 in
theorem m_X1_boil (l : Launch) (g : x_G) (tA tA_degrees tA_brown : Nat) (t_down : Int32) (t_core : Int32) (t_water : Int32) (t_pricked : Int32) (t_thinSpots : Int32) (t_seconds : Int32) (t_gone : Int32) (t_splitAt : Int32) (t_steam : Int32) (t_degrees : Nat → Int32) : x_MetV l yX1_boil wX1_boil rX1_boil g [.ref tA] [(tA, .inr (1, [.int t_down, .ref tA_degrees, .ref tA_brown, .int t_core, .int t_water, .int t_pricked, .int t_thinSpots, .int t_seconds, .int t_gone, .int t_splitAt, .int t_steam])), (tA_degrees, .inl (g.2.1 0, 4, .inl t_degrees))] (fun u : Int32 × Int32 => u = F_X1_boil t_degrees t_core t_water t_pricked) (fun u => [(tA, .inr (1, [.int t_down, .ref tA_degrees, .ref tA_brown, .int t_core, .int u.1, .int t_pricked, .int t_thinSpots, .int t_seconds, .int t_gone, .int t_splitAt, .int u.2])), (tA_degrees, .inl (g.2.1 0, 4, .inl t_degrees))]) := by
  refine x_startV (cc := cX1_boil) (maxL := 3) (by decide) rfl (Nat.le_of_ble_eq_true rfl) ?_
  intro p e s m args below meth c Q A ls H locs hx hb hml hown hts hK hX hP hD hS hA hl RET
  have hown : s.vm.findClass RX1 = some m.cls := hown
  have hl : lv_has ls 3 [(0, .ref tA)] := hl
  obtain ⟨o_0, hO⟩ : ∃ z, z = F_X1_boil t_degrees t_core t_water t_pricked := ⟨_, rfl⟩
  have E := hO
  rw [F_X1_boil.eq_1] at E
  refine lv_aload_n hx hb dX1_boil_0 rfl (lv_at hl 0 rfl) ?_
  refine va_get (ci := 1) (v := .int t_core) (C := RX1) (T := TX1) (N := 11) hx hb hts inlX1 hown hK.1 hP 0 rfl rfl 3 (by decide) (hts _ kw_80) (fun _ h9 => h9) rfl dX1_boil_1 ?_
  refine lv_istore_n (lv' := [(1, .int t_core), (0, .ref tA)]) hx hb dX1_boil_4 rfl hl (by decide) rfl (fun ls hl => ?_)
  refine lv_iconst (v := 0) hx hb dX1_boil_5 (by decide) ?_
  refine lv_istore_n (lv' := [(2, .int 0), (1, .int t_core), (0, .ref tA)]) hx hb dX1_boil_6 rfl hl (by decide) rfl (fun ls hl => ?_)
  obtain ⟨o_2, E_2, E⟩ := x_nm_ex E
  have J_2 : ∀ (l1_1 : Int32), o_2 = l1_1 → ∀ (H : Heap) (locs : List Loc) (ls : Array Slot), va_P g.1 vwCl [(tA, .inr (1, [.int t_down, .ref tA_degrees, .ref tA_brown, .int t_core, .int t_water, .int t_pricked, .int t_thinSpots, .int t_seconds, .int t_gone, .int t_splitAt, .int t_steam])), (tA_degrees, .inl (g.2.1 0, 4, .inl t_degrees))] H → va_D A [(tA, .inr (1, [.int t_down, .ref tA_degrees, .ref tA_brown, .int t_core, .int t_water, .int t_pricked, .int t_thinSpots, .int t_seconds, .int t_gone, .int t_splitAt, .int t_steam])), (tA_degrees, .inl (g.2.1 0, 4, .inl t_degrees))] → va_S A s.heap H locs → lv_has ls 3 [(0, .ref tA), (1, .int l1_1)] → W p l e rX1_boil s m args below meth c H locs 0 0 Q (F0 m 29 ls []) := by
    intro l1_1 hE  H locs ls hP hD hS hl
    try rw [hE] at E
    refine lv_aload_n hx hb dX1_boil_29 rfl (lv_at hl 0 rfl) ?_
    refine lv_aload_n hx hb dX1_boil_30 rfl (lv_at hl 0 rfl) ?_
    refine va_get (ci := 1) (v := .int t_water) (C := RX1) (T := TX1) (N := 11) hx hb hts inlX1 hown hK.1 hP 0 rfl rfl 4 (by decide) (hts _ kw_81) (fun _ h9 => h9) rfl dX1_boil_31 ?_
    obtain ⟨o_4, E_4, E⟩ := x_nm_ex E
    have J_4 : ∀ (v_3 : Int32), o_4 = v_3 → ∀ (H : Heap) (locs : List Loc) (ls : Array Slot), va_P g.1 vwCl [(tA, .inr (1, [.int t_down, .ref tA_degrees, .ref tA_brown, .int t_core, .int t_water, .int t_pricked, .int t_thinSpots, .int t_seconds, .int t_gone, .int t_splitAt, .int t_steam])), (tA_degrees, .inl (g.2.1 0, 4, .inl t_degrees))] H → va_D A [(tA, .inr (1, [.int t_down, .ref tA_degrees, .ref tA_brown, .int t_core, .int t_water, .int t_pricked, .int t_thinSpots, .int t_seconds, .int t_gone, .int t_splitAt, .int t_steam])), (tA_degrees, .inl (g.2.1 0, 4, .inl t_degrees))] → va_S A s.heap H locs → lv_has ls 3 [(0, .ref tA)] → W p l e rX1_boil s m args below meth c H locs 0 0 Q (F0 m 49 ls [.int v_3, .ref tA]) := by
      intro v_3 hE  H locs ls hP hD hS hl
      try rw [hE] at E
      refine va_put (ci := 1) (v := .int v_3) (ty := .int) (C := RX1) (T := TX1) (N := 11) hx hb hts inlX1 tyX1 tyX1_ok nmX1 hown hK.1 hP hD hS 0 rfl rfl 10 (by decide) (hts _ kw_87) (fun _ h9 => h9) rfl (tyX1_ok 10 (by decide)) rfl rfl (Nat.le_of_ble_eq_true rfl) dX1_boil_49 (fun H locs hP hD hS => ?_)
      have hP : va_P g.1 vwCl [(tA, .inr (1, [.int t_down, .ref tA_degrees, .ref tA_brown, .int t_core, .int t_water, .int t_pricked, .int t_thinSpots, .int t_seconds, .int t_gone, .int t_splitAt, .int v_3])), (tA_degrees, .inl (g.2.1 0, 4, .inl t_degrees))] H := hP
      have hD : va_D A [(tA, .inr (1, [.int t_down, .ref tA_degrees, .ref tA_brown, .int t_core, .int t_water, .int t_pricked, .int t_thinSpots, .int t_seconds, .int t_gone, .int t_splitAt, .int v_3])), (tA_degrees, .inl (g.2.1 0, 4, .inl t_degrees))] := hD
      refine lv_aload_n hx hb dX1_boil_52 rfl (lv_at hl 0 rfl) ?_
      refine va_get (ci := 1) (v := .int v_3) (C := RX1) (T := TX1) (N := 11) hx hb hts inlX1 hown hK.1 hP 0 rfl rfl 10 (by decide) (hts _ kw_87) (fun _ h9 => h9) rfl dX1_boil_53 ?_
      refine lv_bipush (v := 20) hx hb dX1_boil_56 (by decide) ?_
      refine lv_idiv hx hb dX1_boil_58 (by decide) ?_
      refine lv_aload_n hx hb dX1_boil_59 rfl (lv_at hl 0 rfl) ?_
      refine va_get (ci := 1) (v := .int t_core) (C := RX1) (T := TX1) (N := 11) hx hb hts inlX1 hown hK.1 hP 0 rfl rfl 3 (by decide) (hts _ kw_80) (fun _ h9 => h9) rfl dX1_boil_60 ?_
      refine lv_bipush (v := 60) hx hb dX1_boil_63 (by decide) ?_
      obtain ⟨o_6, E_6, E⟩ := x_nm_ex E
      have J_6 : ∀ (v_5 : Int32), o_6 = v_5 → ∀ (H : Heap) (locs : List Loc) (ls : Array Slot), va_P g.1 vwCl [(tA, .inr (1, [.int t_down, .ref tA_degrees, .ref tA_brown, .int t_core, .int t_water, .int t_pricked, .int t_thinSpots, .int t_seconds, .int t_gone, .int t_splitAt, .int v_3])), (tA_degrees, .inl (g.2.1 0, 4, .inl t_degrees))] H → va_D A [(tA, .inr (1, [.int t_down, .ref tA_degrees, .ref tA_brown, .int t_core, .int t_water, .int t_pricked, .int t_thinSpots, .int t_seconds, .int t_gone, .int t_splitAt, .int v_3])), (tA_degrees, .inl (g.2.1 0, 4, .inl t_degrees))] → va_S A s.heap H locs → lv_has ls 3 [(0, .ref tA)] → W p l e rX1_boil s m args below meth c H locs 0 0 Q (F0 m 78 ls [.int v_5, .int (v_3 / 20)]) := by
        intro v_5 hE  H locs ls hP hD hS hl
        try rw [hE] at E
        refine lv_iadd hx hb dX1_boil_78 ?_
        refine lv_istore_n (lv' := [(2, .int ((v_3 / 20) + v_5)), (0, .ref tA)]) hx hb dX1_boil_79 rfl hl (by decide) rfl (fun ls hl => ?_)
        refine lv_aload_n hx hb dX1_boil_80 rfl (lv_at hl 1 rfl) ?_
        refine lv_iconst (v := 0) hx hb dX1_boil_81 (by decide) ?_
        refine lv_aload_n hx hb dX1_boil_82 rfl (lv_at hl 1 rfl) ?_
        refine va_get (ci := 1) (v := .int t_water) (C := RX1) (T := TX1) (N := 11) hx hb hts inlX1 hown hK.1 hP 0 rfl rfl 4 (by decide) (hts _ kw_81) (fun _ h9 => h9) rfl dX1_boil_83 ?_
        refine lv_iload_n hx hb dX1_boil_86 rfl (lv_at hl 0 rfl) ?_
        refine lv_isub hx hb dX1_boil_87 ?_
        refine va_mmax hx hb (hml.trans hl.1.symm) hown (hts _ kw_402) (hts _ kw_403) (hts _ kw_172) (hts _ kw_404) (Nat.le_of_ble_eq_true rfl) (Nat.le_of_ble_eq_true rfl) (Nat.zero_le _) (Nat.zero_le _) dX1_boil_88 ?_
        refine lv_topi (fun q_7 hq => ?_)
        have E := x_nm_eq E hq
        refine va_put (ci := 1) (v := .int q_7) (ty := .int) (C := RX1) (T := TX1) (N := 11) hx hb hts inlX1 tyX1 tyX1_ok nmX1 hown hK.1 hP hD hS 0 rfl rfl 4 (by decide) (hts _ kw_81) (fun _ h9 => h9) rfl (tyX1_ok 4 (by decide)) rfl rfl (Nat.le_of_ble_eq_true rfl) dX1_boil_91 (fun H locs hP hD hS => ?_)
        have hP : va_P g.1 vwCl [(tA, .inr (1, [.int t_down, .ref tA_degrees, .ref tA_brown, .int t_core, .int q_7, .int t_pricked, .int t_thinSpots, .int t_seconds, .int t_gone, .int t_splitAt, .int v_3])), (tA_degrees, .inl (g.2.1 0, 4, .inl t_degrees))] H := hP
        have hD : va_D A [(tA, .inr (1, [.int t_down, .ref tA_degrees, .ref tA_brown, .int t_core, .int q_7, .int t_pricked, .int t_thinSpots, .int t_seconds, .int t_gone, .int t_splitAt, .int v_3])), (tA_degrees, .inl (g.2.1 0, 4, .inl t_degrees))] := hD
        exact RET (q_7, v_3) H locs _ _ (E.symm.trans hO) hP hD hS dX1_boil_94
      have E := E_6
      refine lv_icmp_le (tgt := 77) hx hb dX1_boil_65 (by decide) (fun c_8 => ?_) (fun c_8 => ?_)
      · have E := x_pos E c_8
        refine lv_iconst (v := 0) hx hb dX1_boil_77 (by decide) ?_
        exact J_6 0 E  H locs ls hP hD hS (lv_sub hl [0] rfl)
      · have E := x_neg E c_8
        refine lv_aload_n hx hb dX1_boil_68 rfl (lv_at hl 0 rfl) ?_
        refine va_get (ci := 1) (v := .int t_pricked) (C := RX1) (T := TX1) (N := 11) hx hb hts inlX1 hown hK.1 hP 0 rfl rfl 5 (by decide) (hts _ kw_82) (fun _ h9 => h9) rfl dX1_boil_69 ?_
        refine lv_iconst (v := 3) hx hb dX1_boil_72 (by decide) ?_
        refine lv_idiv hx hb dX1_boil_73 (by decide) ?_
        refine lv_goto (tgt := 78) hx hb dX1_boil_74 (by decide) ?_
        exact J_6 (t_pricked / 3) E  H locs ls hP hD hS (lv_sub hl [0] rfl)
    have E := E_4
    refine lv_if_le (tgt := 48) hx hb dX1_boil_34 (by decide) (fun c_9 => ?_) (fun c_9 => ?_)
    · have E := x_pos E c_9
      refine lv_iconst (v := 0) hx hb dX1_boil_48 (by decide) ?_
      exact J_4 0 E  H locs ls hP hD hS (lv_sub hl [0] rfl)
    · have E := x_neg E c_9
      refine lv_iconst (v := 0) hx hb dX1_boil_37 (by decide) ?_
      refine lv_iload_n hx hb dX1_boil_38 rfl (lv_at hl 1 rfl) ?_
      refine lv_bipush (v := 100) hx hb dX1_boil_39 (by decide) ?_
      refine lv_isub hx hb dX1_boil_41 ?_
      refine va_mmax hx hb (hml.trans hl.1.symm) hown (hts _ kw_402) (hts _ kw_403) (hts _ kw_172) (hts _ kw_404) (Nat.le_of_ble_eq_true rfl) (Nat.le_of_ble_eq_true rfl) (Nat.zero_le _) (Nat.zero_le _) dX1_boil_42 ?_
      refine lv_topi (fun q_10 hq => ?_)
      have E := x_nm_eq E hq
      refine lv_goto (tgt := 49) hx hb dX1_boil_45 (by decide) ?_
      exact J_4 q_10 E  H locs ls hP hD hS (lv_sub hl [0] rfl)
  have E := E_2
  have L_13 : ∀ (n_13 : Nat) (l1_11 : Int32) (k2_12 : Nat), (k2_12 ≤ 4) → ((4 - k2_12) < n_13) → o_2 = F_X1_boil_L7 t_degrees n_13 l1_11 k2_12 → ∀ (H : Heap) (locs : List Loc) (ls : Array Slot), va_P g.1 vwCl [(tA, .inr (1, [.int t_down, .ref tA_degrees, .ref tA_brown, .int t_core, .int t_water, .int t_pricked, .int t_thinSpots, .int t_seconds, .int t_gone, .int t_splitAt, .int t_steam])), (tA_degrees, .inl (g.2.1 0, 4, .inl t_degrees))] H → va_D A [(tA, .inr (1, [.int t_down, .ref tA_degrees, .ref tA_brown, .int t_core, .int t_water, .int t_pricked, .int t_thinSpots, .int t_seconds, .int t_gone, .int t_splitAt, .int t_steam])), (tA_degrees, .inl (g.2.1 0, 4, .inl t_degrees))] → va_S A s.heap H locs → lv_has ls 3 [(0, .ref tA), (1, .int l1_11), (2, .int (nI k2_12))] → W p l e rX1_boil s m args below meth c H locs 0 0 Q (F0 m 7 ls []) := by
    intro n_13
    induction n_13 with
    | zero => intro l1_11 k2_12 i_13_0 i_13_1; exact absurd i_13_1 (by omega)
    | succ n_13 ih_13 =>
      intro l1_11 k2_12 i_13_0 i_13_1 E H locs ls hP hD hS hl
      rw [F_X1_boil_L7.eq_2] at E
      refine lv_iload_n hx hb dX1_boil_7 rfl (lv_at hl 2 rfl) ?_
      refine lv_iconst (v := 4) hx hb dX1_boil_8 (by decide) ?_
      refine x_icmp_ge (a := k2_12) (b := 4) (tgt := 29) hx hb (by omega) (by omega) dX1_boil_9 (by decide) (fun c_14 => ?_) (fun c_14 => ?_)
      · have E := x_pos E c_14
        exact J_2 l1_11 E  H locs ls hP hD hS (lv_sub hl [0, 1] rfl)
      · have E := x_neg E c_14
        refine lv_iload_n hx hb dX1_boil_12 rfl (lv_at hl 1 rfl) ?_
        refine lv_aload_n hx hb dX1_boil_13 rfl (lv_at hl 0 rfl) ?_
        refine va_get (ci := 1) (v := .ref tA_degrees) (C := RX1) (T := TX1) (N := 11) hx hb hts inlX1 hown hK.1 hP 0 rfl rfl 1 (by decide) (hts _ kw_68) (fun _ h9 => h9) rfl dX1_boil_14 ?_
        refine lv_iload_n hx hb dX1_boil_17 rfl (lv_at hl 2 rfl) ?_
        refine x_ialdN hx hb hK hP 1 k2_12 rfl (by omega) (by decide) dX1_boil_18 ?_
        refine va_mmax hx hb (hml.trans hl.1.symm) hown (hts _ kw_402) (hts _ kw_403) (hts _ kw_172) (hts _ kw_404) (Nat.le_of_ble_eq_true rfl) (Nat.le_of_ble_eq_true rfl) (Nat.zero_le _) (Nat.zero_le _) dX1_boil_19 ?_
        refine lv_topi (fun q_15 hq => ?_)
        have E := x_nm_eq E hq
        refine lv_istore_n (lv' := [(1, .int q_15), (0, .ref tA), (2, .int (nI k2_12))]) hx hb dX1_boil_22 rfl hl (by decide) rfl (fun ls hl => ?_)
        refine lv_iinc (v := nI (k2_12 + 1)) (lv' := [(2, .int (nI (k2_12 + 1))), (1, .int q_15), (0, .ref tA)]) hx hb dX1_boil_23 hl (k := 2) rfl (nI_1 k2_12) (by decide) rfl (fun ls hl => ?_)
        refine lv_goto (tgt := 7) hx hb dX1_boil_26 (by decide) ?_
        exact ih_13 q_15 (k2_12 + 1) (by first | omega | assumption | exact Eq.trans (by assumption) (by assumption)) (by omega) E H locs ls hP hD hS (lv_sub hl [2, 1, 0] rfl)
  exact L_13 (4 + 1) t_core 0 (by first | omega | assumption | rfl) (by omega) E H locs ls hP hD hS (lv_sub hl [2, 1, 0] rfl)
abbrev rX1_browner : Room := { frames := 1, cells := 0, slots := 0, locals := 21 }
theorem vX1_browner : yX1_browner.cls = RX1 ∧ yX1_browner.cls ≠ "java/lang/invoke/MethodHandle" ∧ yX1_browner.cls ≠ "java/lang/invoke/VarHandle" ∧ (parseMethodDescriptor yX1_browner.desc).map (fun d => d.parameters.length) = some 0 := by decide +kernel
abbrev wX1_browner : List Cond := Cond.code yX1_browner cX1_browner 3 none :: wsL_law
def F_X1_browner_L2 (t_degrees : Nat → Int32) : Nat → Nat → (Nat → Int32) → (Nat → Int32)
  | 0, k1_3, t_brown_4 => t_brown_4
  | n_5 + 1, k1_3, t_brown_4 => if 4 ≤ k1_3 then t_brown_4 else x_nm (if (0 : Int32) < (((t_degrees k1_3) - 120) / 10) then (((t_degrees k1_3) - 120) / 10) else (0 : Int32)) fun q_7 => x_nm (if ((t_brown_4 k1_3) + q_7) < (999 : Int32) then ((t_brown_4 k1_3) + q_7) else (999 : Int32)) fun q_8 => x_nm (upd t_brown_4 k1_3 q_8) fun t_brown_9 => F_X1_browner_L2 t_degrees n_5 (k1_3 + 1) t_brown_9
def F_X1_browner (t_degrees : Nat → Int32) (t_brown : Nat → Int32) : (Nat → Int32) :=
  x_nm (α := (Nat → Int32)) (F_X1_browner_L2 t_degrees (4 + 1) 0 t_brown) fun u_2 => u_2
set_option maxHeartbeats 4000000 in
set_option maxRecDepth 100000 in
theorem m_X1_browner (l : Launch) (g : x_G) (tA tA_degrees tA_brown : Nat) (t_down : Int32) (t_core : Int32) (t_water : Int32) (t_pricked : Int32) (t_thinSpots : Int32) (t_seconds : Int32) (t_gone : Int32) (t_splitAt : Int32) (t_steam : Int32) (t_degrees : Nat → Int32) (t_brown : Nat → Int32) : x_MetV l yX1_browner wX1_browner rX1_browner g [.ref tA] [(tA, .inr (1, [.int t_down, .ref tA_degrees, .ref tA_brown, .int t_core, .int t_water, .int t_pricked, .int t_thinSpots, .int t_seconds, .int t_gone, .int t_splitAt, .int t_steam])), (tA_degrees, .inl (g.2.1 0, 4, .inl t_degrees)), (tA_brown, .inl (g.2.1 0, 4, .inl t_brown))] (fun u : (Nat → Int32) => u = F_X1_browner t_degrees t_brown) (fun u => [(tA, .inr (1, [.int t_down, .ref tA_degrees, .ref tA_brown, .int t_core, .int t_water, .int t_pricked, .int t_thinSpots, .int t_seconds, .int t_gone, .int t_splitAt, .int t_steam])), (tA_degrees, .inl (g.2.1 0, 4, .inl t_degrees)), (tA_brown, .inl (g.2.1 0, 4, .inl u))]) := by
  refine x_startV (cc := cX1_browner) (maxL := 3) (by decide) rfl (Nat.le_of_ble_eq_true rfl) ?_
  intro p e s m args below meth c Q A ls H locs hx hb hml hown hts hK hX hP hD hS hA hl RET
  have hown : s.vm.findClass RX1 = some m.cls := hown
  have hl : lv_has ls 3 [(0, .ref tA)] := hl
  obtain ⟨o_0, hO⟩ : ∃ z, z = F_X1_browner t_degrees t_brown := ⟨_, rfl⟩
  have E := hO
  rw [F_X1_browner.eq_1] at E
  refine lv_iconst (v := 0) hx hb dX1_browner_0 (by decide) ?_
  refine lv_istore_n (lv' := [(1, .int 0), (0, .ref tA)]) hx hb dX1_browner_1 rfl hl (by decide) rfl (fun ls hl => ?_)
  obtain ⟨o_2, E_2, E⟩ := x_nm_ex E
  have J_2 : ∀ (t_brown_1 : Nat → Int32), o_2 = t_brown_1 → ∀ (H : Heap) (locs : List Loc) (ls : Array Slot), va_P g.1 vwCl [(tA, .inr (1, [.int t_down, .ref tA_degrees, .ref tA_brown, .int t_core, .int t_water, .int t_pricked, .int t_thinSpots, .int t_seconds, .int t_gone, .int t_splitAt, .int t_steam])), (tA_degrees, .inl (g.2.1 0, 4, .inl t_degrees)), (tA_brown, .inl (g.2.1 0, 4, .inl t_brown_1))] H → va_D A [(tA, .inr (1, [.int t_down, .ref tA_degrees, .ref tA_brown, .int t_core, .int t_water, .int t_pricked, .int t_thinSpots, .int t_seconds, .int t_gone, .int t_splitAt, .int t_steam])), (tA_degrees, .inl (g.2.1 0, 4, .inl t_degrees)), (tA_brown, .inl (g.2.1 0, 4, .inl t_brown_1))] → va_S A s.heap H locs → lv_has ls 3 [] → W p l e rX1_browner s m args below meth c H locs 0 0 Q (F0 m 50 ls []) := by
    intro t_brown_1 hE  H locs ls hP hD hS hl
    try rw [hE] at E
    exact RET t_brown_1 H locs _ _ (E.symm.trans hO) hP hD hS dX1_browner_50
  have E := E_2
  have L_5 : ∀ (n_5 : Nat) (k1_3 : Nat) (t_brown_4 : Nat → Int32), (k1_3 ≤ 4) → ((4 - k1_3) < n_5) → o_2 = F_X1_browner_L2 t_degrees n_5 k1_3 t_brown_4 → ∀ (H : Heap) (locs : List Loc) (ls : Array Slot), va_P g.1 vwCl [(tA, .inr (1, [.int t_down, .ref tA_degrees, .ref tA_brown, .int t_core, .int t_water, .int t_pricked, .int t_thinSpots, .int t_seconds, .int t_gone, .int t_splitAt, .int t_steam])), (tA_degrees, .inl (g.2.1 0, 4, .inl t_degrees)), (tA_brown, .inl (g.2.1 0, 4, .inl t_brown_4))] H → va_D A [(tA, .inr (1, [.int t_down, .ref tA_degrees, .ref tA_brown, .int t_core, .int t_water, .int t_pricked, .int t_thinSpots, .int t_seconds, .int t_gone, .int t_splitAt, .int t_steam])), (tA_degrees, .inl (g.2.1 0, 4, .inl t_degrees)), (tA_brown, .inl (g.2.1 0, 4, .inl t_brown_4))] → va_S A s.heap H locs → lv_has ls 3 [(0, .ref tA), (1, .int (nI k1_3))] → W p l e rX1_browner s m args below meth c H locs 0 0 Q (F0 m 2 ls []) := by
    intro n_5
    induction n_5 with
    | zero => intro k1_3 t_brown_4 i_5_0 i_5_1; exact absurd i_5_1 (by omega)
    | succ n_5 ih_5 =>
      intro k1_3 t_brown_4 i_5_0 i_5_1 E H locs ls hP hD hS hl
      rw [F_X1_browner_L2.eq_2] at E
      refine lv_iload_n hx hb dX1_browner_2 rfl (lv_at hl 1 rfl) ?_
      refine lv_iconst (v := 4) hx hb dX1_browner_3 (by decide) ?_
      refine x_icmp_ge (a := k1_3) (b := 4) (tgt := 50) hx hb (by omega) (by omega) dX1_browner_4 (by decide) (fun c_6 => ?_) (fun c_6 => ?_)
      · have E := x_pos E c_6
        exact J_2 t_brown_4 E  H locs ls hP hD hS (lv_sub hl [] rfl)
      · have E := x_neg E c_6
        refine lv_iconst (v := 0) hx hb dX1_browner_7 (by decide) ?_
        refine lv_aload_n hx hb dX1_browner_8 rfl (lv_at hl 0 rfl) ?_
        refine va_get (ci := 1) (v := .ref tA_degrees) (C := RX1) (T := TX1) (N := 11) hx hb hts inlX1 hown hK.1 hP 0 rfl rfl 1 (by decide) (hts _ kw_68) (fun _ h9 => h9) rfl dX1_browner_9 ?_
        refine lv_iload_n hx hb dX1_browner_12 rfl (lv_at hl 1 rfl) ?_
        refine x_ialdN hx hb hK hP 1 k1_3 rfl (by omega) (by decide) dX1_browner_13 ?_
        refine lv_bipush (v := 120) hx hb dX1_browner_14 (by decide) ?_
        refine lv_isub hx hb dX1_browner_16 ?_
        refine lv_bipush (v := 10) hx hb dX1_browner_17 (by decide) ?_
        refine lv_idiv hx hb dX1_browner_19 (by decide) ?_
        refine va_mmax hx hb (hml.trans hl.1.symm) hown (hts _ kw_402) (hts _ kw_403) (hts _ kw_172) (hts _ kw_404) (Nat.le_of_ble_eq_true rfl) (Nat.le_of_ble_eq_true rfl) (Nat.zero_le _) (Nat.zero_le _) dX1_browner_20 ?_
        refine lv_topi (fun q_7 hq => ?_)
        have E := x_nm_eq E hq
        refine lv_istore_n (lv' := [(2, .int q_7), (0, .ref tA), (1, .int (nI k1_3))]) hx hb dX1_browner_23 rfl hl (by decide) rfl (fun ls hl => ?_)
        refine lv_aload_n hx hb dX1_browner_24 rfl (lv_at hl 1 rfl) ?_
        refine va_get (ci := 1) (v := .ref tA_brown) (C := RX1) (T := TX1) (N := 11) hx hb hts inlX1 hown hK.1 hP 0 rfl rfl 2 (by decide) (hts _ kw_69) (fun _ h9 => h9) rfl dX1_browner_25 ?_
        refine lv_iload_n hx hb dX1_browner_28 rfl (lv_at hl 2 rfl) ?_
        refine lv_sipush (v := 999) hx hb dX1_browner_29 (by decide) ?_
        refine lv_aload_n hx hb dX1_browner_32 rfl (lv_at hl 1 rfl) ?_
        refine va_get (ci := 1) (v := .ref tA_brown) (C := RX1) (T := TX1) (N := 11) hx hb hts inlX1 hown hK.1 hP 0 rfl rfl 2 (by decide) (hts _ kw_69) (fun _ h9 => h9) rfl dX1_browner_33 ?_
        refine lv_iload_n hx hb dX1_browner_36 rfl (lv_at hl 2 rfl) ?_
        refine x_ialdN hx hb hK hP 2 k1_3 rfl (by omega) (by decide) dX1_browner_37 ?_
        refine lv_iload_n hx hb dX1_browner_38 rfl (lv_at hl 0 rfl) ?_
        refine lv_iadd hx hb dX1_browner_39 ?_
        refine va_mmin hx hb (hml.trans hl.1.symm) hown (hts _ kw_413) (hts _ kw_171) (hts _ kw_172) (hts _ kw_173) (Nat.le_of_ble_eq_true rfl) (Nat.le_of_ble_eq_true rfl) (Nat.zero_le _) (Nat.zero_le _) dX1_browner_40 ?_
        refine lv_topi (fun q_8 hq => ?_)
        have E := x_nm_eq E hq
        refine x_iastN hx hb hK hP hD hS 2 k1_3 rfl (by omega) (by decide) dX1_browner_43 (fun t_brown_9 H locs hf hP hD hS => ?_)
        have hP : va_P g.1 vwCl [(tA, .inr (1, [.int t_down, .ref tA_degrees, .ref tA_brown, .int t_core, .int t_water, .int t_pricked, .int t_thinSpots, .int t_seconds, .int t_gone, .int t_splitAt, .int t_steam])), (tA_degrees, .inl (g.2.1 0, 4, .inl t_degrees)), (tA_brown, .inl (g.2.1 0, 4, .inl t_brown_9))] H := hP
        have hD : va_D A [(tA, .inr (1, [.int t_down, .ref tA_degrees, .ref tA_brown, .int t_core, .int t_water, .int t_pricked, .int t_thinSpots, .int t_seconds, .int t_gone, .int t_splitAt, .int t_steam])), (tA_degrees, .inl (g.2.1 0, 4, .inl t_degrees)), (tA_brown, .inl (g.2.1 0, 4, .inl t_brown_9))] := hD
        have E := x_nm_eq E hf
        refine lv_iinc (v := nI (k1_3 + 1)) (lv' := [(1, .int (nI (k1_3 + 1))), (2, .int q_7), (0, .ref tA)]) hx hb dX1_browner_44 hl (k := 2) rfl (nI_1 k1_3) (by decide) rfl (fun ls hl => ?_)
        refine lv_goto (tgt := 2) hx hb dX1_browner_47 (by decide) ?_
        exact ih_5 (k1_3 + 1) t_brown_9 (by first | omega | assumption | exact Eq.trans (by assumption) (by assumption)) (by omega) E H locs ls hP hD hS (lv_sub hl [2, 0] rfl)
  exact L_5 (4 + 1) 0 t_brown (by first | omega | assumption | rfl) (by omega) E H locs ls hP hD hS (lv_sub hl [1, 0] rfl)
abbrev rX1_pressIn : Room := { frames := 1, cells := 0, slots := 0, locals := 21 }
theorem vX1_pressIn : yX1_pressIn.cls = RX1 ∧ yX1_pressIn.cls ≠ "java/lang/invoke/MethodHandle" ∧ yX1_pressIn.cls ≠ "java/lang/invoke/VarHandle" ∧ (parseMethodDescriptor yX1_pressIn.desc).map (fun d => d.parameters.length) = some 1 := by decide +kernel
abbrev wX1_pressIn : List Cond := Cond.code yX1_pressIn cX1_pressIn 3 (some .int) :: wsL_law
def F_X1_pressIn (t_core : Int32) (t_pricked : Int32) (t_gone : Int32) (t_steam : Int32) (r_filling : Int32) : Int32 :=
  if t_gone = 0 then x_nm (if (0 : Int32) < ((t_core - 40) / 4) then ((t_core - 40) / 4) else (0 : Int32)) fun q_2 => x_nm (if (0 : Int32) < (((r_filling + q_2) + (t_steam / 2)) - (5 * t_pricked)) then (((r_filling + q_2) + (t_steam / 2)) - (5 * t_pricked)) else (0 : Int32)) fun q_3 => q_3 else 0
set_option maxHeartbeats 4000000 in
set_option maxRecDepth 100000 in
theorem m_X1_pressIn (l : Launch) (g : x_G) (tA rA tA_degrees tA_brown rA_kinds rA_firsts rA_seconds : Nat) (t_down : Int32) (t_core : Int32) (t_water : Int32) (t_pricked : Int32) (t_thinSpots : Int32) (t_seconds : Int32) (t_gone : Int32) (t_splitAt : Int32) (t_steam : Int32) (r_radius : Int32) (r_skin : Int32) (r_filling : Int32) (r_water : Int32) (r_ends : Int32) (r_thin : Int32) (r_chance : Int32) (r_bentFace : Int32) (r_bentBy : Int32) (r_doings : Nat) : x_MetI l yX1_pressIn wX1_pressIn rX1_pressIn g [.ref tA, .ref rA] [(tA, .inr (1, [.int t_down, .ref tA_degrees, .ref tA_brown, .int t_core, .int t_water, .int t_pricked, .int t_thinSpots, .int t_seconds, .int t_gone, .int t_splitAt, .int t_steam])), (rA, .inr (3, [.int r_radius, .int r_skin, .int r_filling, .int r_water, .int r_ends, .int r_thin, .int r_chance, .int r_bentFace, .int r_bentBy, .int (nI r_doings), .ref rA_kinds, .ref rA_firsts, .ref rA_seconds]))] (fun (r : Int32) (u : Unit) => r = F_X1_pressIn t_core t_pricked t_gone t_steam r_filling) (fun _ => [(tA, .inr (1, [.int t_down, .ref tA_degrees, .ref tA_brown, .int t_core, .int t_water, .int t_pricked, .int t_thinSpots, .int t_seconds, .int t_gone, .int t_splitAt, .int t_steam])), (rA, .inr (3, [.int r_radius, .int r_skin, .int r_filling, .int r_water, .int r_ends, .int r_thin, .int r_chance, .int r_bentFace, .int r_bentBy, .int (nI r_doings), .ref rA_kinds, .ref rA_firsts, .ref rA_seconds]))]) := by
  refine x_startI (cc := cX1_pressIn) (maxL := 3) (by decide) rfl (Nat.le_of_ble_eq_true rfl) ?_
  intro p e s m args below meth c Q A ls H locs hx hb hml hown hts hK hX hP hD hS hA hl RET
  have hown : s.vm.findClass RX1 = some m.cls := hown
  have hl : lv_has ls 3 [(0, .ref tA), (1, .ref rA)] := hl
  obtain ⟨o_0, hO⟩ : ∃ z, z = F_X1_pressIn t_core t_pricked t_gone t_steam r_filling := ⟨_, rfl⟩
  have E := hO
  rw [F_X1_pressIn.eq_1] at E
  refine lv_aload_n hx hb dX1_pressIn_0 rfl (lv_at hl 0 rfl) ?_
  refine va_get (ci := 1) (v := .int t_gone) (C := RX1) (T := TX1) (N := 11) hx hb hts inlX1 hown hK.1 hP 0 rfl rfl 8 (by decide) (hts _ kw_85) (fun _ h9 => h9) rfl dX1_pressIn_1 ?_
  refine lv_if_eq (tgt := 9) hx hb dX1_pressIn_4 (by decide) (fun c_1 => ?_) (fun c_1 => ?_)
  · have E := x_pos E c_1
    refine lv_iconst (v := 0) hx hb dX1_pressIn_9 (by decide) ?_
    refine lv_aload_n hx hb dX1_pressIn_10 rfl (lv_at hl 0 rfl) ?_
    refine va_get (ci := 1) (v := .int t_core) (C := RX1) (T := TX1) (N := 11) hx hb hts inlX1 hown hK.1 hP 0 rfl rfl 3 (by decide) (hts _ kw_80) (fun _ h9 => h9) rfl dX1_pressIn_11 ?_
    refine lv_bipush (v := 40) hx hb dX1_pressIn_14 (by decide) ?_
    refine lv_isub hx hb dX1_pressIn_16 ?_
    refine lv_iconst (v := 4) hx hb dX1_pressIn_17 (by decide) ?_
    refine lv_idiv hx hb dX1_pressIn_18 (by decide) ?_
    refine va_mmax hx hb (hml.trans hl.1.symm) hown (hts _ kw_402) (hts _ kw_403) (hts _ kw_172) (hts _ kw_404) (Nat.le_of_ble_eq_true rfl) (Nat.le_of_ble_eq_true rfl) (Nat.zero_le _) (Nat.zero_le _) dX1_pressIn_19 ?_
    refine lv_topi (fun q_2 hq => ?_)
    have E := x_nm_eq E hq
    refine lv_istore_n (lv' := [(2, .int q_2), (0, .ref tA), (1, .ref rA)]) hx hb dX1_pressIn_22 rfl hl (by decide) rfl (fun ls hl => ?_)
    refine lv_iconst (v := 0) hx hb dX1_pressIn_23 (by decide) ?_
    refine lv_aload_n hx hb dX1_pressIn_24 rfl (lv_at hl 2 rfl) ?_
    refine va_get (ci := 3) (v := .int r_filling) (C := RX3) (T := TX3) (N := 13) hx hb hts inlX3 hown hK.1 hP 1 rfl rfl 2 (by decide) (hts _ kw_418) (fun _ h9 => h9) rfl dX1_pressIn_25 ?_
    refine lv_iload_n hx hb dX1_pressIn_28 rfl (lv_at hl 0 rfl) ?_
    refine lv_iadd hx hb dX1_pressIn_29 ?_
    refine lv_aload_n hx hb dX1_pressIn_30 rfl (lv_at hl 1 rfl) ?_
    refine va_get (ci := 1) (v := .int t_steam) (C := RX1) (T := TX1) (N := 11) hx hb hts inlX1 hown hK.1 hP 0 rfl rfl 10 (by decide) (hts _ kw_87) (fun _ h9 => h9) rfl dX1_pressIn_31 ?_
    refine lv_iconst (v := 2) hx hb dX1_pressIn_34 (by decide) ?_
    refine lv_idiv hx hb dX1_pressIn_35 (by decide) ?_
    refine lv_iadd hx hb dX1_pressIn_36 ?_
    refine lv_iconst (v := 5) hx hb dX1_pressIn_37 (by decide) ?_
    refine lv_aload_n hx hb dX1_pressIn_38 rfl (lv_at hl 1 rfl) ?_
    refine va_get (ci := 1) (v := .int t_pricked) (C := RX1) (T := TX1) (N := 11) hx hb hts inlX1 hown hK.1 hP 0 rfl rfl 5 (by decide) (hts _ kw_82) (fun _ h9 => h9) rfl dX1_pressIn_39 ?_
    refine lv_imul hx hb dX1_pressIn_42 ?_
    refine lv_isub hx hb dX1_pressIn_43 ?_
    refine va_mmax hx hb (hml.trans hl.1.symm) hown (hts _ kw_402) (hts _ kw_403) (hts _ kw_172) (hts _ kw_404) (Nat.le_of_ble_eq_true rfl) (Nat.le_of_ble_eq_true rfl) (Nat.zero_le _) (Nat.zero_le _) dX1_pressIn_44 ?_
    refine lv_topi (fun q_3 hq => ?_)
    have E := x_nm_eq E hq
    exact RET q_3 () H locs _ _ (E.symm.trans hO) rfl hP hD hS dX1_pressIn_47
  · have E := x_neg E c_1
    refine lv_iconst (v := 0) hx hb dX1_pressIn_7 (by decide) ?_
    exact RET 0 () H locs _ _ (E.symm.trans hO) rfl hP hD hS dX1_pressIn_8
abbrev rX1_pullRound : Room := { frames := 0, cells := 0, slots := 0, locals := 0 }
theorem vX1_pullRoundS : yX1_pullRound.cls ≠ "java/lang/invoke/MethodHandle" ∧ yX1_pullRound.cls ≠ "java/lang/invoke/VarHandle" ∧ (parseMethodDescriptor yX1_pullRound.desc).map (fun d => d.parameters.length) = some 3 := by decide +kernel
abbrev wX1_pullRound : List Cond := Cond.code yX1_pullRound cX1_pullRound 4 (some .int) :: wsL_law
def F_X1_pullRound (a1 : Int32) (r_radius : Int32) (r_bentFace : Int32) (r_bentBy : Int32) (a3 : Int32) : Int32 :=
  x_nm (α := Int32) (if a1 = r_bentFace then r_bentBy else 0) fun u_2 => (a3 * r_radius) + u_2
set_option maxHeartbeats 4000000 in
set_option maxRecDepth 100000 in
theorem m_X1_pullRound (l : Launch) (g : x_G) (rA rA_kinds rA_firsts rA_seconds : Nat) (r_radius : Int32) (r_skin : Int32) (r_filling : Int32) (r_water : Int32) (r_ends : Int32) (r_thin : Int32) (r_chance : Int32) (r_bentFace : Int32) (r_bentBy : Int32) (r_doings : Nat) (a1 : Int32) (a3 : Int32) : x_MetI l yX1_pullRound wX1_pullRound rX1_pullRound g [.int a1, .ref rA, .int a3] [(rA, .inr (3, [.int r_radius, .int r_skin, .int r_filling, .int r_water, .int r_ends, .int r_thin, .int r_chance, .int r_bentFace, .int r_bentBy, .int (nI r_doings), .ref rA_kinds, .ref rA_firsts, .ref rA_seconds]))] (fun (r : Int32) (u : Unit) => r = F_X1_pullRound a1 r_radius r_bentFace r_bentBy a3) (fun _ => [(rA, .inr (3, [.int r_radius, .int r_skin, .int r_filling, .int r_water, .int r_ends, .int r_thin, .int r_chance, .int r_bentFace, .int r_bentBy, .int (nI r_doings), .ref rA_kinds, .ref rA_firsts, .ref rA_seconds]))]) := by
  refine x_startI (cc := cX1_pullRound) (maxL := 4) (by decide) rfl (Nat.le_of_ble_eq_true rfl) ?_
  intro p e s m args below meth c Q A ls H locs hx hb hml hown hts hK hX hP hD hS hA hl RET
  have hown : s.vm.findClass RX1 = some m.cls := hown
  have hl : lv_has ls 4 [(0, .int a1), (1, .ref rA), (2, .int a3)] := hl
  obtain ⟨o_0, hO⟩ : ∃ z, z = F_X1_pullRound a1 r_radius r_bentFace r_bentBy a3 := ⟨_, rfl⟩
  have E := hO
  rw [F_X1_pullRound.eq_1] at E
  refine lv_iload_n hx hb dX1_pullRound_0 rfl (lv_at hl 0 rfl) ?_
  refine lv_aload_n hx hb dX1_pullRound_1 rfl (lv_at hl 1 rfl) ?_
  refine va_get (ci := 3) (v := .int r_bentFace) (C := RX3) (T := TX3) (N := 13) hx hb hts inlX3 hown hK.1 hP 0 rfl rfl 7 (by decide) (hts _ kw_427) (fun _ h9 => h9) rfl dX1_pullRound_2 ?_
  obtain ⟨o_2, E_2, E⟩ := x_nm_ex E
  have J_2 : ∀ (v_1 : Int32), o_2 = v_1 → ∀ (H : Heap) (locs : List Loc) (ls : Array Slot), va_P g.1 vwCl [(rA, .inr (3, [.int r_radius, .int r_skin, .int r_filling, .int r_water, .int r_ends, .int r_thin, .int r_chance, .int r_bentFace, .int r_bentBy, .int (nI r_doings), .ref rA_kinds, .ref rA_firsts, .ref rA_seconds]))] H → va_D A [(rA, .inr (3, [.int r_radius, .int r_skin, .int r_filling, .int r_water, .int r_ends, .int r_thin, .int r_chance, .int r_bentFace, .int r_bentBy, .int (nI r_doings), .ref rA_kinds, .ref rA_firsts, .ref rA_seconds]))] → va_S A s.heap H locs → lv_has ls 4 [(1, .ref rA), (2, .int a3)] → W p l e rX1_pullRound s m args below meth c H locs 0 0 Q (F0 m 16 ls [.int v_1]) := by
    intro v_1 hE  H locs ls hP hD hS hl
    try rw [hE] at E
    refine lv_istore_n (lv' := [(3, .int v_1), (1, .ref rA), (2, .int a3)]) hx hb dX1_pullRound_16 rfl hl (by decide) rfl (fun ls hl => ?_)
    refine lv_iload_n hx hb dX1_pullRound_17 rfl (lv_at hl 2 rfl) ?_
    refine lv_aload_n hx hb dX1_pullRound_18 rfl (lv_at hl 1 rfl) ?_
    refine va_get (ci := 3) (v := .int r_radius) (C := RX3) (T := TX3) (N := 13) hx hb hts inlX3 hown hK.1 hP 0 rfl rfl 0 (by decide) (hts _ kw_401) (fun _ h9 => h9) rfl dX1_pullRound_19 ?_
    refine lv_imul hx hb dX1_pullRound_22 ?_
    refine lv_iload_n hx hb dX1_pullRound_23 rfl (lv_at hl 0 rfl) ?_
    refine lv_iadd hx hb dX1_pullRound_24 ?_
    exact RET ((a3 * r_radius) + v_1) () H locs _ _ (E.symm.trans hO) rfl hP hD hS dX1_pullRound_25
  have E := E_2
  refine x_icmp_neI (tgt := 15) hx hb dX1_pullRound_5 (by decide) (fun c_3 => ?_) (fun c_3 => ?_)
  · have E := x_neg E c_3
    refine lv_iconst (v := 0) hx hb dX1_pullRound_15 (by decide) ?_
    exact J_2 0 E  H locs ls hP hD hS (lv_sub hl [1, 2] rfl)
  · have E := x_pos E c_3
    refine lv_aload_n hx hb dX1_pullRound_8 rfl (lv_at hl 1 rfl) ?_
    refine va_get (ci := 3) (v := .int r_bentBy) (C := RX3) (T := TX3) (N := 13) hx hb hts inlX3 hown hK.1 hP 0 rfl rfl 8 (by decide) (hts _ kw_428) (fun _ h9 => h9) rfl dX1_pullRound_9 ?_
    refine lv_goto (tgt := 16) hx hb dX1_pullRound_12 (by decide) ?_
    exact J_2 r_bentBy E  H locs ls hP hD hS (lv_sub hl [1, 2] rfl)
abbrev rX1_pullAlong : Room := { frames := 0, cells := 0, slots := 0, locals := 0 }
theorem vX1_pullAlongS : yX1_pullAlong.cls ≠ "java/lang/invoke/MethodHandle" ∧ yX1_pullAlong.cls ≠ "java/lang/invoke/VarHandle" ∧ (parseMethodDescriptor yX1_pullAlong.desc).map (fun d => d.parameters.length) = some 2 := by decide +kernel
abbrev wX1_pullAlong : List Cond := Cond.code yX1_pullAlong cX1_pullAlong 2 (some .int) :: wsL_law
def F_X1_pullAlong (r_radius : Int32) (a2 : Int32) : Int32 :=
  (a2 * r_radius) / 2
set_option maxHeartbeats 4000000 in
set_option maxRecDepth 100000 in
theorem m_X1_pullAlong (l : Launch) (g : x_G) (rA rA_kinds rA_firsts rA_seconds : Nat) (r_radius : Int32) (r_skin : Int32) (r_filling : Int32) (r_water : Int32) (r_ends : Int32) (r_thin : Int32) (r_chance : Int32) (r_bentFace : Int32) (r_bentBy : Int32) (r_doings : Nat) (a2 : Int32) : x_MetI l yX1_pullAlong wX1_pullAlong rX1_pullAlong g [.ref rA, .int a2] [(rA, .inr (3, [.int r_radius, .int r_skin, .int r_filling, .int r_water, .int r_ends, .int r_thin, .int r_chance, .int r_bentFace, .int r_bentBy, .int (nI r_doings), .ref rA_kinds, .ref rA_firsts, .ref rA_seconds]))] (fun (r : Int32) (u : Unit) => r = F_X1_pullAlong r_radius a2) (fun _ => [(rA, .inr (3, [.int r_radius, .int r_skin, .int r_filling, .int r_water, .int r_ends, .int r_thin, .int r_chance, .int r_bentFace, .int r_bentBy, .int (nI r_doings), .ref rA_kinds, .ref rA_firsts, .ref rA_seconds]))]) := by
  refine x_startI (cc := cX1_pullAlong) (maxL := 2) (by decide) rfl (Nat.le_of_ble_eq_true rfl) ?_
  intro p e s m args below meth c Q A ls H locs hx hb hml hown hts hK hX hP hD hS hA hl RET
  have hown : s.vm.findClass RX1 = some m.cls := hown
  have hl : lv_has ls 2 [(0, .ref rA), (1, .int a2)] := hl
  obtain ⟨o_0, hO⟩ : ∃ z, z = F_X1_pullAlong r_radius a2 := ⟨_, rfl⟩
  have E := hO
  rw [F_X1_pullAlong.eq_1] at E
  refine lv_iload_n hx hb dX1_pullAlong_0 rfl (lv_at hl 1 rfl) ?_
  refine lv_aload_n hx hb dX1_pullAlong_1 rfl (lv_at hl 0 rfl) ?_
  refine va_get (ci := 3) (v := .int r_radius) (C := RX3) (T := TX3) (N := 13) hx hb hts inlX3 hown hK.1 hP 0 rfl rfl 0 (by decide) (hts _ kw_401) (fun _ h9 => h9) rfl dX1_pullAlong_2 ?_
  refine lv_imul hx hb dX1_pullAlong_5 ?_
  refine lv_iconst (v := 2) hx hb dX1_pullAlong_6 (by decide) ?_
  refine lv_idiv hx hb dX1_pullAlong_7 (by decide) ?_
  exact RET ((a2 * r_radius) / 2) () H locs _ _ (E.symm.trans hO) rfl hP hD hS dX1_pullAlong_8
abbrev rX1_strengthAt : Room := { frames := 1, cells := 0, slots := 0, locals := 21 }
theorem vX1_strengthAt : yX1_strengthAt.cls = RX1 ∧ yX1_strengthAt.cls ≠ "java/lang/invoke/MethodHandle" ∧ yX1_strengthAt.cls ≠ "java/lang/invoke/VarHandle" ∧ (parseMethodDescriptor yX1_strengthAt.desc).map (fun d => d.parameters.length) = some 2 := by decide +kernel
abbrev wX1_strengthAt : List Cond := Cond.code yX1_strengthAt cX1_strengthAt 5 (some .int) :: wsL_law
def F_X1_strengthAt (t_degrees : Nat → Int32) (t_thinSpots : Int32) (a1 : Nat) (r_skin : Int32) (r_thin : Int32) : Int32 :=
  x_nm (α := Int32) (if (nI a1) < 0 then 0 else if 4 ≤ a1 then 0 else x_nm (if (0 : Int32) < (((t_degrees a1) - 150) / 2) then (((t_degrees a1) - 150) / 2) else (0 : Int32)) fun q_9 => q_9) fun u_2 => x_nm (α := Int32) (if ((t_thinSpots >>> ((nI a1) &&& 31)) &&& 1) = 1 then r_thin else 0) fun u_4 => x_nm (if (1 : Int32) < ((r_skin - u_2) - u_4) then ((r_skin - u_2) - u_4) else (1 : Int32)) fun q_5 => q_5
set_option maxHeartbeats 4000000 in
set_option maxRecDepth 100000 in
theorem m_X1_strengthAt (l : Launch) (g : x_G) (tA tA_degrees rA tA_brown rA_kinds rA_firsts rA_seconds : Nat) (t_down : Int32) (t_core : Int32) (t_water : Int32) (t_pricked : Int32) (t_thinSpots : Int32) (t_seconds : Int32) (t_gone : Int32) (t_splitAt : Int32) (t_steam : Int32) (t_degrees : Nat → Int32) (r_radius : Int32) (r_skin : Int32) (r_filling : Int32) (r_water : Int32) (r_ends : Int32) (r_thin : Int32) (r_chance : Int32) (r_bentFace : Int32) (r_bentBy : Int32) (r_doings : Nat) (a1 : Nat) (h_0 : a1 < 4) : x_MetI l yX1_strengthAt wX1_strengthAt rX1_strengthAt g [.ref tA, .int (nI a1), .ref rA] [(tA, .inr (1, [.int t_down, .ref tA_degrees, .ref tA_brown, .int t_core, .int t_water, .int t_pricked, .int t_thinSpots, .int t_seconds, .int t_gone, .int t_splitAt, .int t_steam])), (tA_degrees, .inl (g.2.1 0, 4, .inl t_degrees)), (rA, .inr (3, [.int r_radius, .int r_skin, .int r_filling, .int r_water, .int r_ends, .int r_thin, .int r_chance, .int r_bentFace, .int r_bentBy, .int (nI r_doings), .ref rA_kinds, .ref rA_firsts, .ref rA_seconds]))] (fun (r : Int32) (u : Unit) => r = F_X1_strengthAt t_degrees t_thinSpots a1 r_skin r_thin) (fun _ => [(tA, .inr (1, [.int t_down, .ref tA_degrees, .ref tA_brown, .int t_core, .int t_water, .int t_pricked, .int t_thinSpots, .int t_seconds, .int t_gone, .int t_splitAt, .int t_steam])), (tA_degrees, .inl (g.2.1 0, 4, .inl t_degrees)), (rA, .inr (3, [.int r_radius, .int r_skin, .int r_filling, .int r_water, .int r_ends, .int r_thin, .int r_chance, .int r_bentFace, .int r_bentBy, .int (nI r_doings), .ref rA_kinds, .ref rA_firsts, .ref rA_seconds]))]) := by
  refine x_startI (cc := cX1_strengthAt) (maxL := 5) (by decide) rfl (Nat.le_of_ble_eq_true rfl) ?_
  intro p e s m args below meth c Q A ls H locs hx hb hml hown hts hK hX hP hD hS hA hl RET
  have hown : s.vm.findClass RX1 = some m.cls := hown
  have hl : lv_has ls 5 [(0, .ref tA), (1, .int (nI a1)), (2, .ref rA)] := hl
  obtain ⟨o_0, hO⟩ : ∃ z, z = F_X1_strengthAt t_degrees t_thinSpots a1 r_skin r_thin := ⟨_, rfl⟩
  have E := hO
  rw [F_X1_strengthAt.eq_1] at E
  refine lv_iload_n hx hb dX1_strengthAt_0 rfl (lv_at hl 1 rfl) ?_
  obtain ⟨o_2, E_2, E⟩ := x_nm_ex E
  have J_2 : ∀ (v_1 : Int32), o_2 = v_1 → ∀ (H : Heap) (locs : List Loc) (ls : Array Slot), va_P g.1 vwCl [(tA, .inr (1, [.int t_down, .ref tA_degrees, .ref tA_brown, .int t_core, .int t_water, .int t_pricked, .int t_thinSpots, .int t_seconds, .int t_gone, .int t_splitAt, .int t_steam])), (tA_degrees, .inl (g.2.1 0, 4, .inl t_degrees)), (rA, .inr (3, [.int r_radius, .int r_skin, .int r_filling, .int r_water, .int r_ends, .int r_thin, .int r_chance, .int r_bentFace, .int r_bentBy, .int (nI r_doings), .ref rA_kinds, .ref rA_firsts, .ref rA_seconds]))] H → va_D A [(tA, .inr (1, [.int t_down, .ref tA_degrees, .ref tA_brown, .int t_core, .int t_water, .int t_pricked, .int t_thinSpots, .int t_seconds, .int t_gone, .int t_splitAt, .int t_steam])), (tA_degrees, .inl (g.2.1 0, 4, .inl t_degrees)), (rA, .inr (3, [.int r_radius, .int r_skin, .int r_filling, .int r_water, .int r_ends, .int r_thin, .int r_chance, .int r_bentFace, .int r_bentBy, .int (nI r_doings), .ref rA_kinds, .ref rA_firsts, .ref rA_seconds]))] → va_S A s.heap H locs → lv_has ls 5 [(0, .ref tA), (1, .int (nI a1)), (2, .ref rA)] → W p l e rX1_strengthAt s m args below meth c H locs 0 0 Q (F0 m 29 ls [.int v_1]) := by
    intro v_1 hE  H locs ls hP hD hS hl
    try rw [hE] at E
    refine lv_istore_n (lv' := [(3, .int v_1), (0, .ref tA), (1, .int (nI a1)), (2, .ref rA)]) hx hb dX1_strengthAt_29 rfl hl (by decide) rfl (fun ls hl => ?_)
    refine lv_aload_n hx hb dX1_strengthAt_30 rfl (lv_at hl 1 rfl) ?_
    refine va_get (ci := 1) (v := .int t_thinSpots) (C := RX1) (T := TX1) (N := 11) hx hb hts inlX1 hown hK.1 hP 0 rfl rfl 6 (by decide) (hts _ kw_83) (fun _ h9 => h9) rfl dX1_strengthAt_31 ?_
    refine lv_iload_n hx hb dX1_strengthAt_34 rfl (lv_at hl 2 rfl) ?_
    refine lv_ishr hx hb dX1_strengthAt_35 ?_
    refine lv_iconst (v := 1) hx hb dX1_strengthAt_36 (by decide) ?_
    refine lv_iand hx hb dX1_strengthAt_37 ?_
    refine lv_iconst (v := 1) hx hb dX1_strengthAt_38 (by decide) ?_
    obtain ⟨o_4, E_4, E⟩ := x_nm_ex E
    have J_4 : ∀ (v_3 : Int32), o_4 = v_3 → ∀ (H : Heap) (locs : List Loc) (ls : Array Slot), va_P g.1 vwCl [(tA, .inr (1, [.int t_down, .ref tA_degrees, .ref tA_brown, .int t_core, .int t_water, .int t_pricked, .int t_thinSpots, .int t_seconds, .int t_gone, .int t_splitAt, .int t_steam])), (tA_degrees, .inl (g.2.1 0, 4, .inl t_degrees)), (rA, .inr (3, [.int r_radius, .int r_skin, .int r_filling, .int r_water, .int r_ends, .int r_thin, .int r_chance, .int r_bentFace, .int r_bentBy, .int (nI r_doings), .ref rA_kinds, .ref rA_firsts, .ref rA_seconds]))] H → va_D A [(tA, .inr (1, [.int t_down, .ref tA_degrees, .ref tA_brown, .int t_core, .int t_water, .int t_pricked, .int t_thinSpots, .int t_seconds, .int t_gone, .int t_splitAt, .int t_steam])), (tA_degrees, .inl (g.2.1 0, 4, .inl t_degrees)), (rA, .inr (3, [.int r_radius, .int r_skin, .int r_filling, .int r_water, .int r_ends, .int r_thin, .int r_chance, .int r_bentFace, .int r_bentBy, .int (nI r_doings), .ref rA_kinds, .ref rA_firsts, .ref rA_seconds]))] → va_S A s.heap H locs → lv_has ls 5 [(2, .ref rA), (3, .int v_1)] → W p l e rX1_strengthAt s m args below meth c H locs 0 0 Q (F0 m 50 ls [.int v_3]) := by
      intro v_3 hE  H locs ls hP hD hS hl
      try rw [hE] at E
      refine lv_istore (lv' := [(4, .int v_3), (2, .ref rA), (3, .int v_1)]) hx hb dX1_strengthAt_50 hl (by decide) rfl (fun ls hl => ?_)
      refine lv_iconst (v := 1) hx hb dX1_strengthAt_52 (by decide) ?_
      refine lv_aload_n hx hb dX1_strengthAt_53 rfl (lv_at hl 1 rfl) ?_
      refine va_get (ci := 3) (v := .int r_skin) (C := RX3) (T := TX3) (N := 13) hx hb hts inlX3 hown hK.1 hP 2 rfl rfl 1 (by decide) (hts _ kw_434) (fun _ h9 => h9) rfl dX1_strengthAt_54 ?_
      refine lv_iload_n hx hb dX1_strengthAt_57 rfl (lv_at hl 2 rfl) ?_
      refine lv_isub hx hb dX1_strengthAt_58 ?_
      refine lv_iload hx hb dX1_strengthAt_59 (lv_at hl 0 rfl) ?_
      refine lv_isub hx hb dX1_strengthAt_61 ?_
      refine va_mmax hx hb (hml.trans hl.1.symm) hown (hts _ kw_402) (hts _ kw_403) (hts _ kw_172) (hts _ kw_404) (Nat.le_of_ble_eq_true rfl) (Nat.le_of_ble_eq_true rfl) (Nat.zero_le _) (Nat.zero_le _) dX1_strengthAt_62 ?_
      refine lv_topi (fun q_5 hq => ?_)
      have E := x_nm_eq E hq
      exact RET q_5 () H locs _ _ (E.symm.trans hO) rfl hP hD hS dX1_strengthAt_65
    have E := E_4
    refine x_icmp_neI (tgt := 49) hx hb dX1_strengthAt_39 (by decide) (fun c_6 => ?_) (fun c_6 => ?_)
    · have E := x_neg E c_6
      refine lv_iconst (v := 0) hx hb dX1_strengthAt_49 (by decide) ?_
      exact J_4 0 E  H locs ls hP hD hS (lv_sub hl [3, 0] rfl)
    · have E := x_pos E c_6
      refine lv_aload_n hx hb dX1_strengthAt_42 rfl (lv_at hl 3 rfl) ?_
      refine va_get (ci := 3) (v := .int r_thin) (C := RX3) (T := TX3) (N := 13) hx hb hts inlX3 hown hK.1 hP 2 rfl rfl 5 (by decide) (hts _ kw_433) (fun _ h9 => h9) rfl dX1_strengthAt_43 ?_
      refine lv_goto (tgt := 50) hx hb dX1_strengthAt_46 (by decide) ?_
      exact J_4 r_thin E  H locs ls hP hD hS (lv_sub hl [3, 0] rfl)
  have E := E_2
  refine lv_if_lt (tgt := 28) hx hb dX1_strengthAt_1 (by decide) (fun c_7 => ?_) (fun c_7 => ?_)
  · have E := x_pos E c_7
    refine lv_iconst (v := 0) hx hb dX1_strengthAt_28 (by decide) ?_
    exact J_2 0 E  H locs ls hP hD hS (lv_sub hl [0, 1, 2] rfl)
  · have E := x_neg E c_7
    refine lv_iload_n hx hb dX1_strengthAt_4 rfl (lv_at hl 1 rfl) ?_
    refine lv_iconst (v := 4) hx hb dX1_strengthAt_5 (by decide) ?_
    refine x_icmp_ge (a := a1) (b := 4) (tgt := 28) hx hb (by omega) (by omega) dX1_strengthAt_6 (by decide) (fun c_8 => ?_) (fun c_8 => ?_)
    · have E := x_pos E c_8
      refine lv_iconst (v := 0) hx hb dX1_strengthAt_28 (by decide) ?_
      exact J_2 0 E  H locs ls hP hD hS (lv_sub hl [0, 1, 2] rfl)
    · have E := x_neg E c_8
      refine lv_iconst (v := 0) hx hb dX1_strengthAt_9 (by decide) ?_
      refine lv_aload_n hx hb dX1_strengthAt_10 rfl (lv_at hl 0 rfl) ?_
      refine va_get (ci := 1) (v := .ref tA_degrees) (C := RX1) (T := TX1) (N := 11) hx hb hts inlX1 hown hK.1 hP 0 rfl rfl 1 (by decide) (hts _ kw_68) (fun _ h9 => h9) rfl dX1_strengthAt_11 ?_
      refine lv_iload_n hx hb dX1_strengthAt_14 rfl (lv_at hl 1 rfl) ?_
      refine x_ialdN hx hb hK hP 1 a1 rfl (by omega) (by decide) dX1_strengthAt_15 ?_
      refine lv_sipush (v := 150) hx hb dX1_strengthAt_16 (by decide) ?_
      refine lv_isub hx hb dX1_strengthAt_19 ?_
      refine lv_iconst (v := 2) hx hb dX1_strengthAt_20 (by decide) ?_
      refine lv_idiv hx hb dX1_strengthAt_21 (by decide) ?_
      refine va_mmax hx hb (hml.trans hl.1.symm) hown (hts _ kw_402) (hts _ kw_403) (hts _ kw_172) (hts _ kw_404) (Nat.le_of_ble_eq_true rfl) (Nat.le_of_ble_eq_true rfl) (Nat.zero_le _) (Nat.zero_le _) dX1_strengthAt_22 ?_
      refine lv_topi (fun q_9 hq => ?_)
      have E := x_nm_eq E hq
      refine lv_goto (tgt := 29) hx hb dX1_strengthAt_25 (by decide) ?_
      exact J_2 q_9 E  H locs ls hP hD hS (lv_sub hl [0, 1, 2] rfl)
abbrev rX1_goIfPulled : Room := { frames := 2, cells := 0, slots := 0, locals := 45 }
theorem vX1_goIfPulled : yX1_goIfPulled.cls = RX1 ∧ yX1_goIfPulled.cls ≠ "java/lang/invoke/MethodHandle" ∧ yX1_goIfPulled.cls ≠ "java/lang/invoke/VarHandle" ∧ (parseMethodDescriptor yX1_goIfPulled.desc).map (fun d => d.parameters.length) = some 2 := by decide +kernel
abbrev wX1_goIfPulled : List Cond := Cond.code yX1_goIfPulled cX1_goIfPulled 4 none :: wsL_law
def F_X1_goIfPulled_L2 (t_degrees : Nat → Int32) (t_thinSpots : Int32) (t_gone : Int32) (t_splitAt : Int32) (r_radius : Int32) (r_skin : Int32) (r_ends : Int32) (r_thin : Int32) (r_bentFace : Int32) (r_bentBy : Int32) (a2 : Int32) : Nat → Nat → Int32 × Int32
  | 0, k3_1 => (0, 0)
  | n_2 + 1, k3_1 => if 4 ≤ k3_1 then x_nm (F_X1_pullAlong r_radius a2) fun z_4 => x_nm (α := Int32) (if z_4 ≤ r_ends then t_gone else 2) fun u_8 => (u_8, t_splitAt) else x_nm (F_X1_pullRound (nI k3_1) r_radius r_bentFace r_bentBy a2) fun z_10 => x_nm (F_X1_strengthAt t_degrees t_thinSpots k3_1 r_skin r_thin) fun z_13 => if z_10 ≤ z_13 then F_X1_goIfPulled_L2 t_degrees t_thinSpots t_gone t_splitAt r_radius r_skin r_ends r_thin r_bentFace r_bentBy a2 n_2 (k3_1 + 1) else (1, nI k3_1)
def F_X1_goIfPulled (t_degrees : Nat → Int32) (t_thinSpots : Int32) (t_gone : Int32) (t_splitAt : Int32) (r_radius : Int32) (r_skin : Int32) (r_ends : Int32) (r_thin : Int32) (r_bentFace : Int32) (r_bentBy : Int32) (a2 : Int32) : Int32 × Int32 :=
  F_X1_goIfPulled_L2 t_degrees t_thinSpots t_gone t_splitAt r_radius r_skin r_ends r_thin r_bentFace r_bentBy a2 (4 + 1) 0
set_option maxHeartbeats 4000000 in
set_option maxRecDepth 100000 in
theorem m_X1_goIfPulled (l : Launch) (g : x_G) (tA tA_degrees rA tA_brown rA_kinds rA_firsts rA_seconds : Nat) (t_down : Int32) (t_core : Int32) (t_water : Int32) (t_pricked : Int32) (t_thinSpots : Int32) (t_seconds : Int32) (t_gone : Int32) (t_splitAt : Int32) (t_steam : Int32) (t_degrees : Nat → Int32) (r_radius : Int32) (r_skin : Int32) (r_filling : Int32) (r_water : Int32) (r_ends : Int32) (r_thin : Int32) (r_chance : Int32) (r_bentFace : Int32) (r_bentBy : Int32) (r_doings : Nat) (a2 : Int32) : x_MetV l yX1_goIfPulled wX1_goIfPulled rX1_goIfPulled g [.ref tA, .ref rA, .int a2] [(tA, .inr (1, [.int t_down, .ref tA_degrees, .ref tA_brown, .int t_core, .int t_water, .int t_pricked, .int t_thinSpots, .int t_seconds, .int t_gone, .int t_splitAt, .int t_steam])), (tA_degrees, .inl (g.2.1 0, 4, .inl t_degrees)), (rA, .inr (3, [.int r_radius, .int r_skin, .int r_filling, .int r_water, .int r_ends, .int r_thin, .int r_chance, .int r_bentFace, .int r_bentBy, .int (nI r_doings), .ref rA_kinds, .ref rA_firsts, .ref rA_seconds]))] (fun u : Int32 × Int32 => u = F_X1_goIfPulled t_degrees t_thinSpots t_gone t_splitAt r_radius r_skin r_ends r_thin r_bentFace r_bentBy a2) (fun u => [(tA, .inr (1, [.int t_down, .ref tA_degrees, .ref tA_brown, .int t_core, .int t_water, .int t_pricked, .int t_thinSpots, .int t_seconds, .int u.1, .int u.2, .int t_steam])), (tA_degrees, .inl (g.2.1 0, 4, .inl t_degrees)), (rA, .inr (3, [.int r_radius, .int r_skin, .int r_filling, .int r_water, .int r_ends, .int r_thin, .int r_chance, .int r_bentFace, .int r_bentBy, .int (nI r_doings), .ref rA_kinds, .ref rA_firsts, .ref rA_seconds]))]) := by
  refine x_startV (cc := cX1_goIfPulled) (maxL := 4) (by decide) rfl (Nat.le_of_ble_eq_true rfl) ?_
  intro p e s m args below meth c Q A ls H locs hx hb hml hown hts hK hX hP hD hS hA hl RET
  have hown : s.vm.findClass RX1 = some m.cls := hown
  have hl : lv_has ls 4 [(0, .ref tA), (1, .ref rA), (2, .int a2)] := hl
  obtain ⟨o_0, hO⟩ : ∃ z, z = F_X1_goIfPulled t_degrees t_thinSpots t_gone t_splitAt r_radius r_skin r_ends r_thin r_bentFace r_bentBy a2 := ⟨_, rfl⟩
  have E := hO
  rw [F_X1_goIfPulled.eq_1] at E
  refine lv_iconst (v := 0) hx hb dX1_goIfPulled_0 (by decide) ?_
  refine lv_istore_n (lv' := [(3, .int 0), (0, .ref tA), (1, .ref rA), (2, .int a2)]) hx hb dX1_goIfPulled_1 rfl hl (by decide) rfl (fun ls hl => ?_)
  have L_2 : ∀ (n_2 : Nat) (k3_1 : Nat), (k3_1 ≤ 4) → ((4 - k3_1) < n_2) → o_0 = F_X1_goIfPulled_L2 t_degrees t_thinSpots t_gone t_splitAt r_radius r_skin r_ends r_thin r_bentFace r_bentBy a2 n_2 k3_1 → ∀ (H : Heap) (locs : List Loc) (ls : Array Slot), va_P g.1 vwCl [(tA, .inr (1, [.int t_down, .ref tA_degrees, .ref tA_brown, .int t_core, .int t_water, .int t_pricked, .int t_thinSpots, .int t_seconds, .int t_gone, .int t_splitAt, .int t_steam])), (tA_degrees, .inl (g.2.1 0, 4, .inl t_degrees)), (rA, .inr (3, [.int r_radius, .int r_skin, .int r_filling, .int r_water, .int r_ends, .int r_thin, .int r_chance, .int r_bentFace, .int r_bentBy, .int (nI r_doings), .ref rA_kinds, .ref rA_firsts, .ref rA_seconds]))] H → va_D A [(tA, .inr (1, [.int t_down, .ref tA_degrees, .ref tA_brown, .int t_core, .int t_water, .int t_pricked, .int t_thinSpots, .int t_seconds, .int t_gone, .int t_splitAt, .int t_steam])), (tA_degrees, .inl (g.2.1 0, 4, .inl t_degrees)), (rA, .inr (3, [.int r_radius, .int r_skin, .int r_filling, .int r_water, .int r_ends, .int r_thin, .int r_chance, .int r_bentFace, .int r_bentBy, .int (nI r_doings), .ref rA_kinds, .ref rA_firsts, .ref rA_seconds]))] → va_S A s.heap H locs → lv_has ls 4 [(0, .ref tA), (1, .ref rA), (2, .int a2), (3, .int (nI k3_1))] → W p l e rX1_goIfPulled s m args below meth c H locs 0 0 Q (F0 m 2 ls []) := by
    intro n_2
    induction n_2 with
    | zero => intro k3_1 i_2_0 i_2_1; exact absurd i_2_1 (by omega)
    | succ n_2 ih_2 =>
      intro k3_1 i_2_0 i_2_1 E H locs ls hP hD hS hl
      rw [F_X1_goIfPulled_L2.eq_2] at E
      refine lv_iload_n hx hb dX1_goIfPulled_2 rfl (lv_at hl 3 rfl) ?_
      refine lv_iconst (v := 4) hx hb dX1_goIfPulled_3 (by decide) ?_
      refine x_icmp_ge (a := k3_1) (b := 4) (tgt := 39) hx hb (by omega) (by omega) dX1_goIfPulled_4 (by decide) (fun c_3 => ?_) (fun c_3 => ?_)
      · have E := x_pos E c_3
        refine lv_aload_n hx hb dX1_goIfPulled_39 rfl (lv_at hl 1 rfl) ?_
        refine lv_iload_n hx hb dX1_goIfPulled_40 rfl (lv_at hl 2 rfl) ?_
        refine x_callSi (w2 := fun u => [(tA, .inr (1, [.int t_down, .ref tA_degrees, .ref tA_brown, .int t_core, .int t_water, .int t_pricked, .int t_thinSpots, .int t_seconds, .int t_gone, .int t_splitAt, .int t_steam])), (tA_degrees, .inl (g.2.1 0, 4, .inl t_degrees)), (rA, .inr (3, [.int r_radius, .int r_skin, .int r_filling, .int r_water, .int r_ends, .int r_thin, .int r_chance, .int r_bentFace, .int r_bentBy, .int (nI r_doings), .ref rA_kinds, .ref rA_firsts, .ref rA_seconds]))]) (wr := [(tA, .inr (1, [.int t_down, .ref tA_degrees, .ref tA_brown, .int t_core, .int t_water, .int t_pricked, .int t_thinSpots, .int t_seconds, .int t_gone, .int t_splitAt, .int t_steam])), (tA_degrees, .inl (g.2.1 0, 4, .inl t_degrees))]) [2] [0, 1] [0, 1, 2] ⟨hx, hb, hml, hown, hts⟩ hK hX hP hD hS hA (m_X1_pullAlong l g rA rA_kinds rA_firsts rA_seconds r_radius r_skin r_filling r_water r_ends r_thin r_chance r_bentFace r_bentBy r_doings a2) (va_cwS 2 hts (x_gS kw_435 kw_436 kw_25 kw_437) rfl rfl rfl vX1_pullAlongS ⟨Nat.le_of_ble_eq_true rfl, Nat.le_of_ble_eq_true rfl⟩) rfl rfl rfl rfl (by decide) (fun _ => rfl) rfl rfl hl.1 rfl (Nat.le_of_ble_eq_true rfl) dX1_goIfPulled_41 ⟨Nat.zero_le _, Nat.zero_le _⟩ (fun z_4 _ H locs hw_5 hP hD hS => ?_)
        have E := x_nm_eq E hw_5
        refine lv_aload_n hx hb dX1_goIfPulled_44 rfl (lv_at hl 1 rfl) ?_
        refine va_get (ci := 3) (v := .int r_ends) (C := RX3) (T := TX3) (N := 13) hx hb hts inlX3 hown hK.1 hP 2 rfl rfl 4 (by decide) (hts _ kw_423) (fun _ h9 => h9) rfl dX1_goIfPulled_45 ?_
        obtain ⟨o_8, E_8, E⟩ := x_nm_ex E
        have J_8 : ∀ (t_gone_7 : Int32), o_8 = t_gone_7 → ∀ (H : Heap) (locs : List Loc) (ls : Array Slot), va_P g.1 vwCl [(tA, .inr (1, [.int t_down, .ref tA_degrees, .ref tA_brown, .int t_core, .int t_water, .int t_pricked, .int t_thinSpots, .int t_seconds, .int t_gone_7, .int t_splitAt, .int t_steam])), (tA_degrees, .inl (g.2.1 0, 4, .inl t_degrees)), (rA, .inr (3, [.int r_radius, .int r_skin, .int r_filling, .int r_water, .int r_ends, .int r_thin, .int r_chance, .int r_bentFace, .int r_bentBy, .int (nI r_doings), .ref rA_kinds, .ref rA_firsts, .ref rA_seconds]))] H → va_D A [(tA, .inr (1, [.int t_down, .ref tA_degrees, .ref tA_brown, .int t_core, .int t_water, .int t_pricked, .int t_thinSpots, .int t_seconds, .int t_gone_7, .int t_splitAt, .int t_steam])), (tA_degrees, .inl (g.2.1 0, 4, .inl t_degrees)), (rA, .inr (3, [.int r_radius, .int r_skin, .int r_filling, .int r_water, .int r_ends, .int r_thin, .int r_chance, .int r_bentFace, .int r_bentBy, .int (nI r_doings), .ref rA_kinds, .ref rA_firsts, .ref rA_seconds]))] → va_S A s.heap H locs → lv_has ls 4 [] → W p l e rX1_goIfPulled s m args below meth c H locs 0 0 Q (F0 m 56 ls []) := by
          intro t_gone_7 hE  H locs ls hP hD hS hl
          try rw [hE] at E
          exact RET (t_gone_7, t_splitAt) H locs _ _ (E.symm.trans hO) hP hD hS dX1_goIfPulled_56
        have E := E_8
        refine lv_icmp_le (tgt := 56) hx hb dX1_goIfPulled_48 (by decide) (fun c_9 => ?_) (fun c_9 => ?_)
        · have E := x_pos E c_9
          exact J_8 t_gone E  H locs ls hP hD hS (lv_sub hl [] rfl)
        · have E := x_neg E c_9
          refine lv_aload_n hx hb dX1_goIfPulled_51 rfl (lv_at hl 0 rfl) ?_
          refine lv_iconst (v := 2) hx hb dX1_goIfPulled_52 (by decide) ?_
          refine va_put (ci := 1) (v := .int 2) (ty := .int) (C := RX1) (T := TX1) (N := 11) hx hb hts inlX1 tyX1 tyX1_ok nmX1 hown hK.1 hP hD hS 0 rfl rfl 8 (by decide) (hts _ kw_85) (fun _ h9 => h9) rfl (tyX1_ok 8 (by decide)) rfl rfl (Nat.le_of_ble_eq_true rfl) dX1_goIfPulled_53 (fun H locs hP hD hS => ?_)
          have hP : va_P g.1 vwCl [(tA, .inr (1, [.int t_down, .ref tA_degrees, .ref tA_brown, .int t_core, .int t_water, .int t_pricked, .int t_thinSpots, .int t_seconds, .int 2, .int t_splitAt, .int t_steam])), (tA_degrees, .inl (g.2.1 0, 4, .inl t_degrees)), (rA, .inr (3, [.int r_radius, .int r_skin, .int r_filling, .int r_water, .int r_ends, .int r_thin, .int r_chance, .int r_bentFace, .int r_bentBy, .int (nI r_doings), .ref rA_kinds, .ref rA_firsts, .ref rA_seconds]))] H := hP
          have hD : va_D A [(tA, .inr (1, [.int t_down, .ref tA_degrees, .ref tA_brown, .int t_core, .int t_water, .int t_pricked, .int t_thinSpots, .int t_seconds, .int 2, .int t_splitAt, .int t_steam])), (tA_degrees, .inl (g.2.1 0, 4, .inl t_degrees)), (rA, .inr (3, [.int r_radius, .int r_skin, .int r_filling, .int r_water, .int r_ends, .int r_thin, .int r_chance, .int r_bentFace, .int r_bentBy, .int (nI r_doings), .ref rA_kinds, .ref rA_firsts, .ref rA_seconds]))] := hD
          exact J_8 2 E  H locs ls hP hD hS (lv_sub hl [] rfl)
      · have E := x_neg E c_3
        refine lv_iload_n hx hb dX1_goIfPulled_7 rfl (lv_at hl 3 rfl) ?_
        refine lv_aload_n hx hb dX1_goIfPulled_8 rfl (lv_at hl 1 rfl) ?_
        refine lv_iload_n hx hb dX1_goIfPulled_9 rfl (lv_at hl 2 rfl) ?_
        refine x_callSi (w2 := fun u => [(tA, .inr (1, [.int t_down, .ref tA_degrees, .ref tA_brown, .int t_core, .int t_water, .int t_pricked, .int t_thinSpots, .int t_seconds, .int t_gone, .int t_splitAt, .int t_steam])), (tA_degrees, .inl (g.2.1 0, 4, .inl t_degrees)), (rA, .inr (3, [.int r_radius, .int r_skin, .int r_filling, .int r_water, .int r_ends, .int r_thin, .int r_chance, .int r_bentFace, .int r_bentBy, .int (nI r_doings), .ref rA_kinds, .ref rA_firsts, .ref rA_seconds]))]) (wr := [(tA, .inr (1, [.int t_down, .ref tA_degrees, .ref tA_brown, .int t_core, .int t_water, .int t_pricked, .int t_thinSpots, .int t_seconds, .int t_gone, .int t_splitAt, .int t_steam])), (tA_degrees, .inl (g.2.1 0, 4, .inl t_degrees))]) [2] [0, 1] [0, 1, 2] ⟨hx, hb, hml, hown, hts⟩ hK hX hP hD hS hA (m_X1_pullRound l g rA rA_kinds rA_firsts rA_seconds r_radius r_skin r_filling r_water r_ends r_thin r_chance r_bentFace r_bentBy r_doings (nI k3_1) a2) (va_cwS 3 hts (x_gS kw_424 kw_425 kw_25 kw_426) rfl rfl rfl vX1_pullRoundS ⟨Nat.le_of_ble_eq_true rfl, Nat.le_of_ble_eq_true rfl⟩) rfl rfl rfl rfl (by decide) (fun _ => rfl) rfl rfl hl.1 rfl (Nat.le_of_ble_eq_true rfl) dX1_goIfPulled_10 ⟨Nat.zero_le _, Nat.zero_le _⟩ (fun z_10 _ H locs hw_11 hP hD hS => ?_)
        have E := x_nm_eq E hw_11
        refine lv_aload_n hx hb dX1_goIfPulled_13 rfl (lv_at hl 0 rfl) ?_
        refine lv_iload_n hx hb dX1_goIfPulled_14 rfl (lv_at hl 3 rfl) ?_
        refine lv_aload_n hx hb dX1_goIfPulled_15 rfl (lv_at hl 1 rfl) ?_
        refine x_callVi (w2 := fun u => [(tA, .inr (1, [.int t_down, .ref tA_degrees, .ref tA_brown, .int t_core, .int t_water, .int t_pricked, .int t_thinSpots, .int t_seconds, .int t_gone, .int t_splitAt, .int t_steam])), (tA_degrees, .inl (g.2.1 0, 4, .inl t_degrees)), (rA, .inr (3, [.int r_radius, .int r_skin, .int r_filling, .int r_water, .int r_ends, .int r_thin, .int r_chance, .int r_bentFace, .int r_bentBy, .int (nI r_doings), .ref rA_kinds, .ref rA_firsts, .ref rA_seconds]))]) (wr := []) [0, 1, 2] [] [0, 1, 2] 0 1 ⟨hx, hb, hml, hown, hts⟩ hK hX hP hD hS hA (m_X1_strengthAt l g tA tA_degrees rA tA_brown rA_kinds rA_firsts rA_seconds t_down t_core t_water t_pricked t_thinSpots t_seconds t_gone t_splitAt t_steam t_degrees r_radius r_skin r_filling r_water r_ends r_thin r_chance r_bentFace r_bentBy r_doings k3_1 (by first | assumption | omega | exact x_e8 (by assumption) (by assumption))) (cwV 2 hts (x_gV kw_429 kw_430 kw_431 kw_25 kw_432) rfl rfl rfl vX1_strengthAt ⟨Nat.le_of_ble_eq_true rfl, Nat.le_of_ble_eq_true rfl⟩) rfl rfl rfl rfl rfl rfl rfl (by decide) (fun _ => rfl) rfl rfl hl.1 rfl (Nat.le_of_ble_eq_true rfl) dX1_goIfPulled_16 ⟨Nat.zero_le _, Nat.zero_le _⟩ (fun z_13 _ H locs hw_14 hP hD hS => ?_)
        have E := x_nm_eq E hw_14
        refine lv_icmp_le (tgt := 33) hx hb dX1_goIfPulled_19 (by decide) (fun c_16 => ?_) (fun c_16 => ?_)
        · have E := x_pos E c_16
          refine lv_iinc (v := nI (k3_1 + 1)) (lv' := [(3, .int (nI (k3_1 + 1))), (0, .ref tA), (1, .ref rA), (2, .int a2)]) hx hb dX1_goIfPulled_33 hl (k := 3) rfl (nI_1 k3_1) (by decide) rfl (fun ls hl => ?_)
          refine lv_goto (tgt := 2) hx hb dX1_goIfPulled_36 (by decide) ?_
          exact ih_2 (k3_1 + 1) (by first | omega | assumption | exact Eq.trans (by assumption) (by assumption)) (by omega) E H locs ls hP hD hS (lv_sub hl [1, 2, 3, 0] rfl)
        · have E := x_neg E c_16
          refine lv_aload_n hx hb dX1_goIfPulled_22 rfl (lv_at hl 0 rfl) ?_
          refine lv_iconst (v := 1) hx hb dX1_goIfPulled_23 (by decide) ?_
          refine va_put (ci := 1) (v := .int 1) (ty := .int) (C := RX1) (T := TX1) (N := 11) hx hb hts inlX1 tyX1 tyX1_ok nmX1 hown hK.1 hP hD hS 0 rfl rfl 8 (by decide) (hts _ kw_85) (fun _ h9 => h9) rfl (tyX1_ok 8 (by decide)) rfl rfl (Nat.le_of_ble_eq_true rfl) dX1_goIfPulled_24 (fun H locs hP hD hS => ?_)
          have hP : va_P g.1 vwCl [(tA, .inr (1, [.int t_down, .ref tA_degrees, .ref tA_brown, .int t_core, .int t_water, .int t_pricked, .int t_thinSpots, .int t_seconds, .int 1, .int t_splitAt, .int t_steam])), (tA_degrees, .inl (g.2.1 0, 4, .inl t_degrees)), (rA, .inr (3, [.int r_radius, .int r_skin, .int r_filling, .int r_water, .int r_ends, .int r_thin, .int r_chance, .int r_bentFace, .int r_bentBy, .int (nI r_doings), .ref rA_kinds, .ref rA_firsts, .ref rA_seconds]))] H := hP
          have hD : va_D A [(tA, .inr (1, [.int t_down, .ref tA_degrees, .ref tA_brown, .int t_core, .int t_water, .int t_pricked, .int t_thinSpots, .int t_seconds, .int 1, .int t_splitAt, .int t_steam])), (tA_degrees, .inl (g.2.1 0, 4, .inl t_degrees)), (rA, .inr (3, [.int r_radius, .int r_skin, .int r_filling, .int r_water, .int r_ends, .int r_thin, .int r_chance, .int r_bentFace, .int r_bentBy, .int (nI r_doings), .ref rA_kinds, .ref rA_firsts, .ref rA_seconds]))] := hD
          refine lv_aload_n hx hb dX1_goIfPulled_27 rfl (lv_at hl 0 rfl) ?_
          refine lv_iload_n hx hb dX1_goIfPulled_28 rfl (lv_at hl 3 rfl) ?_
          refine va_put (ci := 1) (v := .int (nI k3_1)) (ty := .int) (C := RX1) (T := TX1) (N := 11) hx hb hts inlX1 tyX1 tyX1_ok nmX1 hown hK.1 hP hD hS 0 rfl rfl 9 (by decide) (hts _ kw_86) (fun _ h9 => h9) rfl (tyX1_ok 9 (by decide)) rfl rfl (Nat.le_of_ble_eq_true rfl) dX1_goIfPulled_29 (fun H locs hP hD hS => ?_)
          have hP : va_P g.1 vwCl [(tA, .inr (1, [.int t_down, .ref tA_degrees, .ref tA_brown, .int t_core, .int t_water, .int t_pricked, .int t_thinSpots, .int t_seconds, .int 1, .int (nI k3_1), .int t_steam])), (tA_degrees, .inl (g.2.1 0, 4, .inl t_degrees)), (rA, .inr (3, [.int r_radius, .int r_skin, .int r_filling, .int r_water, .int r_ends, .int r_thin, .int r_chance, .int r_bentFace, .int r_bentBy, .int (nI r_doings), .ref rA_kinds, .ref rA_firsts, .ref rA_seconds]))] H := hP
          have hD : va_D A [(tA, .inr (1, [.int t_down, .ref tA_degrees, .ref tA_brown, .int t_core, .int t_water, .int t_pricked, .int t_thinSpots, .int t_seconds, .int 1, .int (nI k3_1), .int t_steam])), (tA_degrees, .inl (g.2.1 0, 4, .inl t_degrees)), (rA, .inr (3, [.int r_radius, .int r_skin, .int r_filling, .int r_water, .int r_ends, .int r_thin, .int r_chance, .int r_bentFace, .int r_bentBy, .int (nI r_doings), .ref rA_kinds, .ref rA_firsts, .ref rA_seconds]))] := hD
          exact RET (1, nI k3_1) H locs _ _ (E.symm.trans hO) hP hD hS dX1_goIfPulled_32
  exact L_2 (4 + 1) 0 (by first | omega | assumption | rfl) (by omega) E H locs ls hP hD hS (lv_sub hl [1, 2, 3, 0] rfl)
abbrev rX1_pass : Room := { frames := 3, cells := 0, slots := 0, locals := 68 }
theorem vX1_pass : yX1_pass.cls = RX1 ∧ yX1_pass.cls ≠ "java/lang/invoke/MethodHandle" ∧ yX1_pass.cls ≠ "java/lang/invoke/VarHandle" ∧ (parseMethodDescriptor yX1_pass.desc).map (fun d => d.parameters.length) = some 3 := by decide +kernel
abbrev wX1_pass : List Cond := Cond.code yX1_pass cX1_pass 5 (some .int) :: wsL_law
def F_X1_pass (t_down : Int32) (t_degrees : Nat → Int32) (t_brown : Nat → Int32) (t_core : Int32) (t_water : Int32) (t_pricked : Int32) (t_thinSpots : Int32) (t_seconds : Int32) (t_gone : Int32) (t_splitAt : Int32) (r_radius : Int32) (r_skin : Int32) (r_filling : Int32) (r_ends : Int32) (r_thin : Int32) (r_bentFace : Int32) (r_bentBy : Int32) (a2 : Int32) (a3 : Int32) : Int32 × Int32 × Int32 × Int32 × Int32 × Int32 × Int32 × (Nat → Int32) × (Nat → Int32) :=
  x_nm (α := (Nat → Int32)) (if a2 = 0 then x_nm (F_X1_fireFaces t_down t_degrees a3) fun t_degrees_28 => t_degrees_28 else x_nm (F_X1_simmerFaces t_degrees a3) fun t_degrees_25 => t_degrees_25) fun u_2 => x_nm (F_X1_warmCore u_2 t_core r_radius) fun t_core_3 => x_nm (F_X1_boil u_2 t_core_3 t_water t_pricked) fun u_9 => x_nm (F_X1_browner u_2 t_brown) fun t_brown_10 => x_nm (F_X1_pressIn t_core_3 t_pricked t_gone u_9.2 r_filling) fun z_13 => x_nm (α := Int32 × Int32) (if t_gone = 0 then x_nm (F_X1_goIfPulled u_2 t_thinSpots t_gone t_splitAt r_radius r_skin r_ends r_thin r_bentFace r_bentBy z_13) fun u_23 => (u_23.1, u_23.2) else (t_gone, t_splitAt)) fun u_18 => (z_13, t_core_3, u_9.1, t_seconds + 1, u_18.1, u_18.2, u_9.2, u_2, t_brown_10)
set_option maxHeartbeats 4000000 in
set_option maxRecDepth 100000 in
theorem m_X1_pass (l : Launch) (g : x_G) (tA tA_degrees tA_brown rA rA_kinds rA_firsts rA_seconds : Nat) (t_down : Int32) (t_core : Int32) (t_water : Int32) (t_pricked : Int32) (t_thinSpots : Int32) (t_seconds : Int32) (t_gone : Int32) (t_splitAt : Int32) (t_steam : Int32) (t_degrees : Nat → Int32) (t_brown : Nat → Int32) (r_radius : Int32) (r_skin : Int32) (r_filling : Int32) (r_water : Int32) (r_ends : Int32) (r_thin : Int32) (r_chance : Int32) (r_bentFace : Int32) (r_bentBy : Int32) (r_doings : Nat) (a2 : Int32) (a3 : Int32) : x_MetI l yX1_pass wX1_pass rX1_pass g [.ref tA, .ref rA, .int a2, .int a3] [(tA, .inr (1, [.int t_down, .ref tA_degrees, .ref tA_brown, .int t_core, .int t_water, .int t_pricked, .int t_thinSpots, .int t_seconds, .int t_gone, .int t_splitAt, .int t_steam])), (tA_degrees, .inl (g.2.1 0, 4, .inl t_degrees)), (tA_brown, .inl (g.2.1 0, 4, .inl t_brown)), (rA, .inr (3, [.int r_radius, .int r_skin, .int r_filling, .int r_water, .int r_ends, .int r_thin, .int r_chance, .int r_bentFace, .int r_bentBy, .int (nI r_doings), .ref rA_kinds, .ref rA_firsts, .ref rA_seconds]))] (fun (r : Int32) (u : Int32 × Int32 × Int32 × Int32 × Int32 × Int32 × (Nat → Int32) × (Nat → Int32)) => (r, u) = F_X1_pass t_down t_degrees t_brown t_core t_water t_pricked t_thinSpots t_seconds t_gone t_splitAt r_radius r_skin r_filling r_ends r_thin r_bentFace r_bentBy a2 a3) (fun u => [(tA, .inr (1, [.int t_down, .ref tA_degrees, .ref tA_brown, .int u.1, .int u.2.1, .int t_pricked, .int t_thinSpots, .int u.2.2.1, .int u.2.2.2.1, .int u.2.2.2.2.1, .int u.2.2.2.2.2.1])), (tA_degrees, .inl (g.2.1 0, 4, .inl u.2.2.2.2.2.2.1)), (tA_brown, .inl (g.2.1 0, 4, .inl u.2.2.2.2.2.2.2)), (rA, .inr (3, [.int r_radius, .int r_skin, .int r_filling, .int r_water, .int r_ends, .int r_thin, .int r_chance, .int r_bentFace, .int r_bentBy, .int (nI r_doings), .ref rA_kinds, .ref rA_firsts, .ref rA_seconds]))]) := by
  refine x_startI (cc := cX1_pass) (maxL := 5) (by decide) rfl (Nat.le_of_ble_eq_true rfl) ?_
  intro p e s m args below meth c Q A ls H locs hx hb hml hown hts hK hX hP hD hS hA hl RET
  have hown : s.vm.findClass RX1 = some m.cls := hown
  have hl : lv_has ls 5 [(0, .ref tA), (1, .ref rA), (2, .int a2), (3, .int a3)] := hl
  obtain ⟨o_0, hO⟩ : ∃ z, z = F_X1_pass t_down t_degrees t_brown t_core t_water t_pricked t_thinSpots t_seconds t_gone t_splitAt r_radius r_skin r_filling r_ends r_thin r_bentFace r_bentBy a2 a3 := ⟨_, rfl⟩
  have E := hO
  rw [F_X1_pass.eq_1] at E
  refine lv_iload_n hx hb dX1_pass_0 rfl (lv_at hl 2 rfl) ?_
  obtain ⟨o_2, E_2, E⟩ := x_nm_ex E
  have J_2 : ∀ (t_degrees_1 : Nat → Int32), o_2 = t_degrees_1 → ∀ (H : Heap) (locs : List Loc) (ls : Array Slot), va_P g.1 vwCl [(tA, .inr (1, [.int t_down, .ref tA_degrees, .ref tA_brown, .int t_core, .int t_water, .int t_pricked, .int t_thinSpots, .int t_seconds, .int t_gone, .int t_splitAt, .int t_steam])), (tA_degrees, .inl (g.2.1 0, 4, .inl t_degrees_1)), (tA_brown, .inl (g.2.1 0, 4, .inl t_brown)), (rA, .inr (3, [.int r_radius, .int r_skin, .int r_filling, .int r_water, .int r_ends, .int r_thin, .int r_chance, .int r_bentFace, .int r_bentBy, .int (nI r_doings), .ref rA_kinds, .ref rA_firsts, .ref rA_seconds]))] H → va_D A [(tA, .inr (1, [.int t_down, .ref tA_degrees, .ref tA_brown, .int t_core, .int t_water, .int t_pricked, .int t_thinSpots, .int t_seconds, .int t_gone, .int t_splitAt, .int t_steam])), (tA_degrees, .inl (g.2.1 0, 4, .inl t_degrees_1)), (tA_brown, .inl (g.2.1 0, 4, .inl t_brown)), (rA, .inr (3, [.int r_radius, .int r_skin, .int r_filling, .int r_water, .int r_ends, .int r_thin, .int r_chance, .int r_bentFace, .int r_bentBy, .int (nI r_doings), .ref rA_kinds, .ref rA_firsts, .ref rA_seconds]))] → va_S A s.heap H locs → lv_has ls 5 [(0, .ref tA), (1, .ref rA)] → W p l e rX1_pass s m args below meth c H locs 0 0 Q (F0 m 17 ls []) := by
    intro t_degrees_1 hE  H locs ls hP hD hS hl
    try rw [hE] at E
    refine lv_aload_n hx hb dX1_pass_17 rfl (lv_at hl 0 rfl) ?_
    refine lv_aload_n hx hb dX1_pass_18 rfl (lv_at hl 1 rfl) ?_
    refine x_callVv (w2 := fun u => [(tA, .inr (1, [.int t_down, .ref tA_degrees, .ref tA_brown, .int u, .int t_water, .int t_pricked, .int t_thinSpots, .int t_seconds, .int t_gone, .int t_splitAt, .int t_steam])), (tA_degrees, .inl (g.2.1 0, 4, .inl t_degrees_1)), (tA_brown, .inl (g.2.1 0, 4, .inl t_brown)), (rA, .inr (3, [.int r_radius, .int r_skin, .int r_filling, .int r_water, .int r_ends, .int r_thin, .int r_chance, .int r_bentFace, .int r_bentBy, .int (nI r_doings), .ref rA_kinds, .ref rA_firsts, .ref rA_seconds]))]) (wr := [(tA_brown, .inl (g.2.1 0, 4, .inl t_brown))]) [0, 1, 3] [2] [1, 2, 0, 3] 0 1 ⟨hx, hb, hml, hown, hts⟩ hK hX hP hD hS hA (m_X1_warmCore l g tA tA_degrees rA tA_brown rA_kinds rA_firsts rA_seconds t_down t_core t_water t_pricked t_thinSpots t_seconds t_gone t_splitAt t_steam t_degrees_1 r_radius r_skin r_filling r_water r_ends r_thin r_chance r_bentFace r_bentBy r_doings) (cwV 1 hts (x_gV kw_397 kw_398 kw_399 kw_25 kw_400) rfl rfl rfl vX1_warmCore ⟨Nat.le_of_ble_eq_true rfl, Nat.le_of_ble_eq_true rfl⟩) rfl rfl rfl rfl rfl rfl rfl (by decide) (fun _ => rfl) rfl rfl hl.1 rfl (Nat.le_of_ble_eq_true rfl) dX1_pass_19 ⟨Nat.zero_le _, Nat.zero_le _⟩ (fun t_core_3 H locs hw_4 hP hD hS => ?_)
    have hP : va_P g.1 vwCl [(tA, .inr (1, [.int t_down, .ref tA_degrees, .ref tA_brown, .int t_core_3, .int t_water, .int t_pricked, .int t_thinSpots, .int t_seconds, .int t_gone, .int t_splitAt, .int t_steam])), (tA_degrees, .inl (g.2.1 0, 4, .inl t_degrees_1)), (tA_brown, .inl (g.2.1 0, 4, .inl t_brown)), (rA, .inr (3, [.int r_radius, .int r_skin, .int r_filling, .int r_water, .int r_ends, .int r_thin, .int r_chance, .int r_bentFace, .int r_bentBy, .int (nI r_doings), .ref rA_kinds, .ref rA_firsts, .ref rA_seconds]))] H := hP
    have hD : va_D A [(tA, .inr (1, [.int t_down, .ref tA_degrees, .ref tA_brown, .int t_core_3, .int t_water, .int t_pricked, .int t_thinSpots, .int t_seconds, .int t_gone, .int t_splitAt, .int t_steam])), (tA_degrees, .inl (g.2.1 0, 4, .inl t_degrees_1)), (tA_brown, .inl (g.2.1 0, 4, .inl t_brown)), (rA, .inr (3, [.int r_radius, .int r_skin, .int r_filling, .int r_water, .int r_ends, .int r_thin, .int r_chance, .int r_bentFace, .int r_bentBy, .int (nI r_doings), .ref rA_kinds, .ref rA_firsts, .ref rA_seconds]))] := hD
    have E := x_nm_eq E hw_4
    refine lv_aload_n hx hb dX1_pass_22 rfl (lv_at hl 0 rfl) ?_
    refine x_callVv (w2 := fun u => [(tA, .inr (1, [.int t_down, .ref tA_degrees, .ref tA_brown, .int t_core_3, .int u.1, .int t_pricked, .int t_thinSpots, .int t_seconds, .int t_gone, .int t_splitAt, .int u.2])), (tA_degrees, .inl (g.2.1 0, 4, .inl t_degrees_1)), (tA_brown, .inl (g.2.1 0, 4, .inl t_brown)), (rA, .inr (3, [.int r_radius, .int r_skin, .int r_filling, .int r_water, .int r_ends, .int r_thin, .int r_chance, .int r_bentFace, .int r_bentBy, .int (nI r_doings), .ref rA_kinds, .ref rA_firsts, .ref rA_seconds]))]) (wr := [(tA_brown, .inl (g.2.1 0, 4, .inl t_brown)), (rA, .inr (3, [.int r_radius, .int r_skin, .int r_filling, .int r_water, .int r_ends, .int r_thin, .int r_chance, .int r_bentFace, .int r_bentBy, .int (nI r_doings), .ref rA_kinds, .ref rA_firsts, .ref rA_seconds]))]) [0, 1] [2, 3] [2, 3, 0, 1] 0 1 ⟨hx, hb, hml, hown, hts⟩ hK hX hP hD hS hA (m_X1_boil l g tA tA_degrees tA_brown t_down t_core_3 t_water t_pricked t_thinSpots t_seconds t_gone t_splitAt t_steam t_degrees_1) (cwV 0 hts (x_gV kw_405 kw_406 kw_407 kw_25 kw_408) rfl rfl rfl vX1_boil ⟨Nat.le_of_ble_eq_true rfl, Nat.le_of_ble_eq_true rfl⟩) rfl rfl rfl rfl rfl rfl rfl (by decide) (fun _ => rfl) rfl rfl hl.1 rfl (Nat.le_of_ble_eq_true rfl) dX1_pass_23 ⟨Nat.zero_le _, Nat.zero_le _⟩ (fun u H locs hw_8 hP hD hS => ?_)
    obtain ⟨t_water_6, t_steam_7⟩ := u
    have hP : va_P g.1 vwCl [(tA, .inr (1, [.int t_down, .ref tA_degrees, .ref tA_brown, .int t_core_3, .int t_water_6, .int t_pricked, .int t_thinSpots, .int t_seconds, .int t_gone, .int t_splitAt, .int t_steam_7])), (tA_degrees, .inl (g.2.1 0, 4, .inl t_degrees_1)), (tA_brown, .inl (g.2.1 0, 4, .inl t_brown)), (rA, .inr (3, [.int r_radius, .int r_skin, .int r_filling, .int r_water, .int r_ends, .int r_thin, .int r_chance, .int r_bentFace, .int r_bentBy, .int (nI r_doings), .ref rA_kinds, .ref rA_firsts, .ref rA_seconds]))] H := hP
    have hD : va_D A [(tA, .inr (1, [.int t_down, .ref tA_degrees, .ref tA_brown, .int t_core_3, .int t_water_6, .int t_pricked, .int t_thinSpots, .int t_seconds, .int t_gone, .int t_splitAt, .int t_steam_7])), (tA_degrees, .inl (g.2.1 0, 4, .inl t_degrees_1)), (tA_brown, .inl (g.2.1 0, 4, .inl t_brown)), (rA, .inr (3, [.int r_radius, .int r_skin, .int r_filling, .int r_water, .int r_ends, .int r_thin, .int r_chance, .int r_bentFace, .int r_bentBy, .int (nI r_doings), .ref rA_kinds, .ref rA_firsts, .ref rA_seconds]))] := hD
    have E := x_nm_eq E hw_8
    refine lv_aload_n hx hb dX1_pass_26 rfl (lv_at hl 0 rfl) ?_
    refine x_callVv (w2 := fun u => [(tA, .inr (1, [.int t_down, .ref tA_degrees, .ref tA_brown, .int t_core_3, .int t_water_6, .int t_pricked, .int t_thinSpots, .int t_seconds, .int t_gone, .int t_splitAt, .int t_steam_7])), (tA_degrees, .inl (g.2.1 0, 4, .inl t_degrees_1)), (tA_brown, .inl (g.2.1 0, 4, .inl u)), (rA, .inr (3, [.int r_radius, .int r_skin, .int r_filling, .int r_water, .int r_ends, .int r_thin, .int r_chance, .int r_bentFace, .int r_bentBy, .int (nI r_doings), .ref rA_kinds, .ref rA_firsts, .ref rA_seconds]))]) (wr := [(rA, .inr (3, [.int r_radius, .int r_skin, .int r_filling, .int r_water, .int r_ends, .int r_thin, .int r_chance, .int r_bentFace, .int r_bentBy, .int (nI r_doings), .ref rA_kinds, .ref rA_firsts, .ref rA_seconds]))]) [0, 1, 2] [3] [1, 2, 3, 0] 0 1 ⟨hx, hb, hml, hown, hts⟩ hK hX hP hD hS hA (m_X1_browner l g tA tA_degrees tA_brown t_down t_core_3 t_water_6 t_pricked t_thinSpots t_seconds t_gone t_splitAt t_steam_7 t_degrees_1 t_brown) (cwV 0 hts (x_gV kw_409 kw_410 kw_411 kw_25 kw_412) rfl rfl rfl vX1_browner ⟨Nat.le_of_ble_eq_true rfl, Nat.le_of_ble_eq_true rfl⟩) rfl rfl rfl rfl rfl rfl rfl (by decide) (fun _ => rfl) rfl rfl hl.1 rfl (Nat.le_of_ble_eq_true rfl) dX1_pass_27 ⟨Nat.zero_le _, Nat.zero_le _⟩ (fun t_brown_10 H locs hw_11 hP hD hS => ?_)
    have hP : va_P g.1 vwCl [(tA, .inr (1, [.int t_down, .ref tA_degrees, .ref tA_brown, .int t_core_3, .int t_water_6, .int t_pricked, .int t_thinSpots, .int t_seconds, .int t_gone, .int t_splitAt, .int t_steam_7])), (tA_degrees, .inl (g.2.1 0, 4, .inl t_degrees_1)), (tA_brown, .inl (g.2.1 0, 4, .inl t_brown_10)), (rA, .inr (3, [.int r_radius, .int r_skin, .int r_filling, .int r_water, .int r_ends, .int r_thin, .int r_chance, .int r_bentFace, .int r_bentBy, .int (nI r_doings), .ref rA_kinds, .ref rA_firsts, .ref rA_seconds]))] H := hP
    have hD : va_D A [(tA, .inr (1, [.int t_down, .ref tA_degrees, .ref tA_brown, .int t_core_3, .int t_water_6, .int t_pricked, .int t_thinSpots, .int t_seconds, .int t_gone, .int t_splitAt, .int t_steam_7])), (tA_degrees, .inl (g.2.1 0, 4, .inl t_degrees_1)), (tA_brown, .inl (g.2.1 0, 4, .inl t_brown_10)), (rA, .inr (3, [.int r_radius, .int r_skin, .int r_filling, .int r_water, .int r_ends, .int r_thin, .int r_chance, .int r_bentFace, .int r_bentBy, .int (nI r_doings), .ref rA_kinds, .ref rA_firsts, .ref rA_seconds]))] := hD
    have E := x_nm_eq E hw_11
    refine lv_aload_n hx hb dX1_pass_30 rfl (lv_at hl 0 rfl) ?_
    refine lv_dup hx hb dX1_pass_31 rfl ?_
    refine va_get (ci := 1) (v := .int t_seconds) (C := RX1) (T := TX1) (N := 11) hx hb hts inlX1 hown hK.1 hP 0 rfl rfl 7 (by decide) (hts _ kw_84) (fun _ h9 => h9) rfl dX1_pass_32 ?_
    refine lv_iconst (v := 1) hx hb dX1_pass_35 (by decide) ?_
    refine lv_iadd hx hb dX1_pass_36 ?_
    refine va_put (ci := 1) (v := .int (t_seconds + 1)) (ty := .int) (C := RX1) (T := TX1) (N := 11) hx hb hts inlX1 tyX1 tyX1_ok nmX1 hown hK.1 hP hD hS 0 rfl rfl 7 (by decide) (hts _ kw_84) (fun _ h9 => h9) rfl (tyX1_ok 7 (by decide)) rfl rfl (Nat.le_of_ble_eq_true rfl) dX1_pass_37 (fun H locs hP hD hS => ?_)
    have hP : va_P g.1 vwCl [(tA, .inr (1, [.int t_down, .ref tA_degrees, .ref tA_brown, .int t_core_3, .int t_water_6, .int t_pricked, .int t_thinSpots, .int (t_seconds + 1), .int t_gone, .int t_splitAt, .int t_steam_7])), (tA_degrees, .inl (g.2.1 0, 4, .inl t_degrees_1)), (tA_brown, .inl (g.2.1 0, 4, .inl t_brown_10)), (rA, .inr (3, [.int r_radius, .int r_skin, .int r_filling, .int r_water, .int r_ends, .int r_thin, .int r_chance, .int r_bentFace, .int r_bentBy, .int (nI r_doings), .ref rA_kinds, .ref rA_firsts, .ref rA_seconds]))] H := hP
    have hD : va_D A [(tA, .inr (1, [.int t_down, .ref tA_degrees, .ref tA_brown, .int t_core_3, .int t_water_6, .int t_pricked, .int t_thinSpots, .int (t_seconds + 1), .int t_gone, .int t_splitAt, .int t_steam_7])), (tA_degrees, .inl (g.2.1 0, 4, .inl t_degrees_1)), (tA_brown, .inl (g.2.1 0, 4, .inl t_brown_10)), (rA, .inr (3, [.int r_radius, .int r_skin, .int r_filling, .int r_water, .int r_ends, .int r_thin, .int r_chance, .int r_bentFace, .int r_bentBy, .int (nI r_doings), .ref rA_kinds, .ref rA_firsts, .ref rA_seconds]))] := hD
    refine lv_aload_n hx hb dX1_pass_40 rfl (lv_at hl 0 rfl) ?_
    refine lv_aload_n hx hb dX1_pass_41 rfl (lv_at hl 1 rfl) ?_
    refine x_callVi (w2 := fun u => [(tA, .inr (1, [.int t_down, .ref tA_degrees, .ref tA_brown, .int t_core_3, .int t_water_6, .int t_pricked, .int t_thinSpots, .int (t_seconds + 1), .int t_gone, .int t_splitAt, .int t_steam_7])), (tA_degrees, .inl (g.2.1 0, 4, .inl t_degrees_1)), (tA_brown, .inl (g.2.1 0, 4, .inl t_brown_10)), (rA, .inr (3, [.int r_radius, .int r_skin, .int r_filling, .int r_water, .int r_ends, .int r_thin, .int r_chance, .int r_bentFace, .int r_bentBy, .int (nI r_doings), .ref rA_kinds, .ref rA_firsts, .ref rA_seconds]))]) (wr := [(tA_degrees, .inl (g.2.1 0, 4, .inl t_degrees_1)), (tA_brown, .inl (g.2.1 0, 4, .inl t_brown_10))]) [0, 3] [1, 2] [2, 0, 1, 3] 0 1 ⟨hx, hb, hml, hown, hts⟩ hK hX hP hD hS hA (m_X1_pressIn l g tA rA tA_degrees tA_brown rA_kinds rA_firsts rA_seconds t_down t_core_3 t_water_6 t_pricked t_thinSpots (t_seconds + 1) t_gone t_splitAt t_steam_7 r_radius r_skin r_filling r_water r_ends r_thin r_chance r_bentFace r_bentBy r_doings) (cwV 1 hts (x_gV kw_414 kw_415 kw_416 kw_25 kw_417) rfl rfl rfl vX1_pressIn ⟨Nat.le_of_ble_eq_true rfl, Nat.le_of_ble_eq_true rfl⟩) rfl rfl rfl rfl rfl rfl rfl (by decide) (fun _ => rfl) rfl rfl hl.1 rfl (Nat.le_of_ble_eq_true rfl) dX1_pass_42 ⟨Nat.zero_le _, Nat.zero_le _⟩ (fun z_13 _ H locs hw_14 hP hD hS => ?_)
    have E := x_nm_eq E hw_14
    refine lv_istore (lv' := [(4, .int z_13), (0, .ref tA), (1, .ref rA)]) hx hb dX1_pass_45 hl (by decide) rfl (fun ls hl => ?_)
    refine lv_aload_n hx hb dX1_pass_47 rfl (lv_at hl 1 rfl) ?_
    refine va_get (ci := 1) (v := .int t_gone) (C := RX1) (T := TX1) (N := 11) hx hb hts inlX1 hown hK.1 hP 0 rfl rfl 8 (by decide) (hts _ kw_85) (fun _ h9 => h9) rfl dX1_pass_48 ?_
    obtain ⟨o_18, E_18, E⟩ := x_nm_ex E
    have J_18 : ∀ (t_gone_16 : Int32) (t_splitAt_17 : Int32), o_18 = (t_gone_16, t_splitAt_17) → ∀ (H : Heap) (locs : List Loc) (ls : Array Slot), va_P g.1 vwCl [(tA, .inr (1, [.int t_down, .ref tA_degrees, .ref tA_brown, .int t_core_3, .int t_water_6, .int t_pricked, .int t_thinSpots, .int (t_seconds + 1), .int t_gone_16, .int t_splitAt_17, .int t_steam_7])), (tA_degrees, .inl (g.2.1 0, 4, .inl t_degrees_1)), (tA_brown, .inl (g.2.1 0, 4, .inl t_brown_10)), (rA, .inr (3, [.int r_radius, .int r_skin, .int r_filling, .int r_water, .int r_ends, .int r_thin, .int r_chance, .int r_bentFace, .int r_bentBy, .int (nI r_doings), .ref rA_kinds, .ref rA_firsts, .ref rA_seconds]))] H → va_D A [(tA, .inr (1, [.int t_down, .ref tA_degrees, .ref tA_brown, .int t_core_3, .int t_water_6, .int t_pricked, .int t_thinSpots, .int (t_seconds + 1), .int t_gone_16, .int t_splitAt_17, .int t_steam_7])), (tA_degrees, .inl (g.2.1 0, 4, .inl t_degrees_1)), (tA_brown, .inl (g.2.1 0, 4, .inl t_brown_10)), (rA, .inr (3, [.int r_radius, .int r_skin, .int r_filling, .int r_water, .int r_ends, .int r_thin, .int r_chance, .int r_bentFace, .int r_bentBy, .int (nI r_doings), .ref rA_kinds, .ref rA_firsts, .ref rA_seconds]))] → va_S A s.heap H locs → lv_has ls 5 [(4, .int z_13)] → W p l e rX1_pass s m args below meth c H locs 0 0 Q (F0 m 61 ls []) := by
      intro t_gone_16 t_splitAt_17 hE  H locs ls hP hD hS hl
      try rw [hE] at E
      refine lv_iload hx hb dX1_pass_61 (lv_at hl 0 rfl) ?_
      exact RET z_13 (t_core_3, t_water_6, t_seconds + 1, t_gone_16, t_splitAt_17, t_steam_7, t_degrees_1, t_brown_10) H locs _ _ (E.symm.trans hO) rfl hP hD hS dX1_pass_63
    have E := E_18
    refine x_if_neI (tgt := 61) hx hb dX1_pass_51 (by decide) (fun c_19 => ?_) (fun c_19 => ?_)
    · have E := x_neg E c_19
      exact J_18 t_gone t_splitAt E  H locs ls hP hD hS (lv_sub hl [0] rfl)
    · have E := x_pos E c_19
      refine lv_aload_n hx hb dX1_pass_54 rfl (lv_at hl 1 rfl) ?_
      refine lv_aload_n hx hb dX1_pass_55 rfl (lv_at hl 2 rfl) ?_
      refine lv_iload hx hb dX1_pass_56 (lv_at hl 0 rfl) ?_
      refine x_callVv (w2 := fun u => [(tA, .inr (1, [.int t_down, .ref tA_degrees, .ref tA_brown, .int t_core_3, .int t_water_6, .int t_pricked, .int t_thinSpots, .int (t_seconds + 1), .int u.1, .int u.2, .int t_steam_7])), (tA_degrees, .inl (g.2.1 0, 4, .inl t_degrees_1)), (tA_brown, .inl (g.2.1 0, 4, .inl t_brown_10)), (rA, .inr (3, [.int r_radius, .int r_skin, .int r_filling, .int r_water, .int r_ends, .int r_thin, .int r_chance, .int r_bentFace, .int r_bentBy, .int (nI r_doings), .ref rA_kinds, .ref rA_firsts, .ref rA_seconds]))]) (wr := [(tA_brown, .inl (g.2.1 0, 4, .inl t_brown_10))]) [0, 1, 3] [2] [1, 2, 0, 3] 0 1 ⟨hx, hb, hml, hown, hts⟩ hK hX hP hD hS hA (m_X1_goIfPulled l g tA tA_degrees rA tA_brown rA_kinds rA_firsts rA_seconds t_down t_core_3 t_water_6 t_pricked t_thinSpots (t_seconds + 1) t_gone t_splitAt t_steam_7 t_degrees_1 r_radius r_skin r_filling r_water r_ends r_thin r_chance r_bentFace r_bentBy r_doings z_13) (cwV 2 hts (x_gV kw_419 kw_420 kw_421 kw_25 kw_422) rfl rfl rfl vX1_goIfPulled ⟨Nat.le_of_ble_eq_true rfl, Nat.le_of_ble_eq_true rfl⟩) rfl rfl rfl rfl rfl rfl rfl (by decide) (fun _ => rfl) rfl rfl hl.1 rfl (Nat.le_of_ble_eq_true rfl) dX1_pass_58 ⟨Nat.zero_le _, Nat.zero_le _⟩ (fun u H locs hw_22 hP hD hS => ?_)
      obtain ⟨t_gone_20, t_splitAt_21⟩ := u
      have hP : va_P g.1 vwCl [(tA, .inr (1, [.int t_down, .ref tA_degrees, .ref tA_brown, .int t_core_3, .int t_water_6, .int t_pricked, .int t_thinSpots, .int (t_seconds + 1), .int t_gone_20, .int t_splitAt_21, .int t_steam_7])), (tA_degrees, .inl (g.2.1 0, 4, .inl t_degrees_1)), (tA_brown, .inl (g.2.1 0, 4, .inl t_brown_10)), (rA, .inr (3, [.int r_radius, .int r_skin, .int r_filling, .int r_water, .int r_ends, .int r_thin, .int r_chance, .int r_bentFace, .int r_bentBy, .int (nI r_doings), .ref rA_kinds, .ref rA_firsts, .ref rA_seconds]))] H := hP
      have hD : va_D A [(tA, .inr (1, [.int t_down, .ref tA_degrees, .ref tA_brown, .int t_core_3, .int t_water_6, .int t_pricked, .int t_thinSpots, .int (t_seconds + 1), .int t_gone_20, .int t_splitAt_21, .int t_steam_7])), (tA_degrees, .inl (g.2.1 0, 4, .inl t_degrees_1)), (tA_brown, .inl (g.2.1 0, 4, .inl t_brown_10)), (rA, .inr (3, [.int r_radius, .int r_skin, .int r_filling, .int r_water, .int r_ends, .int r_thin, .int r_chance, .int r_bentFace, .int r_bentBy, .int (nI r_doings), .ref rA_kinds, .ref rA_firsts, .ref rA_seconds]))] := hD
      have E := x_nm_eq E hw_22
      exact J_18 t_gone_20 t_splitAt_21 E  H locs ls hP hD hS (lv_sub hl [0] rfl)
  have E := E_2
  refine x_if_neI (tgt := 12) hx hb dX1_pass_1 (by decide) (fun c_24 => ?_) (fun c_24 => ?_)
  · have E := x_neg E c_24
    refine lv_aload_n hx hb dX1_pass_12 rfl (lv_at hl 0 rfl) ?_
    refine lv_iload_n hx hb dX1_pass_13 rfl (lv_at hl 3 rfl) ?_
    refine x_callVv (w2 := fun u => [(tA, .inr (1, [.int t_down, .ref tA_degrees, .ref tA_brown, .int t_core, .int t_water, .int t_pricked, .int t_thinSpots, .int t_seconds, .int t_gone, .int t_splitAt, .int t_steam])), (tA_degrees, .inl (g.2.1 0, 4, .inl u)), (tA_brown, .inl (g.2.1 0, 4, .inl t_brown)), (rA, .inr (3, [.int r_radius, .int r_skin, .int r_filling, .int r_water, .int r_ends, .int r_thin, .int r_chance, .int r_bentFace, .int r_bentBy, .int (nI r_doings), .ref rA_kinds, .ref rA_firsts, .ref rA_seconds]))]) (wr := [(tA_brown, .inl (g.2.1 0, 4, .inl t_brown)), (rA, .inr (3, [.int r_radius, .int r_skin, .int r_filling, .int r_water, .int r_ends, .int r_thin, .int r_chance, .int r_bentFace, .int r_bentBy, .int (nI r_doings), .ref rA_kinds, .ref rA_firsts, .ref rA_seconds]))]) [0, 1] [2, 3] [2, 3, 0, 1] 0 1 ⟨hx, hb, hml, hown, hts⟩ hK hX hP hD hS hA (m_X1_simmerFaces l g tA tA_degrees tA_brown t_down t_core t_water t_pricked t_thinSpots t_seconds t_gone t_splitAt t_steam t_degrees a3) (cwV 1 hts (x_gV kw_393 kw_394 kw_395 kw_25 kw_396) rfl rfl rfl vX1_simmerFaces ⟨Nat.le_of_ble_eq_true rfl, Nat.le_of_ble_eq_true rfl⟩) rfl rfl rfl rfl rfl rfl rfl (by decide) (fun _ => rfl) rfl rfl hl.1 rfl (Nat.le_of_ble_eq_true rfl) dX1_pass_14 ⟨Nat.zero_le _, Nat.zero_le _⟩ (fun t_degrees_25 H locs hw_26 hP hD hS => ?_)
    have hP : va_P g.1 vwCl [(tA, .inr (1, [.int t_down, .ref tA_degrees, .ref tA_brown, .int t_core, .int t_water, .int t_pricked, .int t_thinSpots, .int t_seconds, .int t_gone, .int t_splitAt, .int t_steam])), (tA_degrees, .inl (g.2.1 0, 4, .inl t_degrees_25)), (tA_brown, .inl (g.2.1 0, 4, .inl t_brown)), (rA, .inr (3, [.int r_radius, .int r_skin, .int r_filling, .int r_water, .int r_ends, .int r_thin, .int r_chance, .int r_bentFace, .int r_bentBy, .int (nI r_doings), .ref rA_kinds, .ref rA_firsts, .ref rA_seconds]))] H := hP
    have hD : va_D A [(tA, .inr (1, [.int t_down, .ref tA_degrees, .ref tA_brown, .int t_core, .int t_water, .int t_pricked, .int t_thinSpots, .int t_seconds, .int t_gone, .int t_splitAt, .int t_steam])), (tA_degrees, .inl (g.2.1 0, 4, .inl t_degrees_25)), (tA_brown, .inl (g.2.1 0, 4, .inl t_brown)), (rA, .inr (3, [.int r_radius, .int r_skin, .int r_filling, .int r_water, .int r_ends, .int r_thin, .int r_chance, .int r_bentFace, .int r_bentBy, .int (nI r_doings), .ref rA_kinds, .ref rA_firsts, .ref rA_seconds]))] := hD
    have E := x_nm_eq E hw_26
    exact J_2 t_degrees_25 E  H locs ls hP hD hS (lv_sub hl [0, 1] rfl)
  · have E := x_pos E c_24
    refine lv_aload_n hx hb dX1_pass_4 rfl (lv_at hl 0 rfl) ?_
    refine lv_iload_n hx hb dX1_pass_5 rfl (lv_at hl 3 rfl) ?_
    refine x_callVv (w2 := fun u => [(tA, .inr (1, [.int t_down, .ref tA_degrees, .ref tA_brown, .int t_core, .int t_water, .int t_pricked, .int t_thinSpots, .int t_seconds, .int t_gone, .int t_splitAt, .int t_steam])), (tA_degrees, .inl (g.2.1 0, 4, .inl u)), (tA_brown, .inl (g.2.1 0, 4, .inl t_brown)), (rA, .inr (3, [.int r_radius, .int r_skin, .int r_filling, .int r_water, .int r_ends, .int r_thin, .int r_chance, .int r_bentFace, .int r_bentBy, .int (nI r_doings), .ref rA_kinds, .ref rA_firsts, .ref rA_seconds]))]) (wr := [(tA_brown, .inl (g.2.1 0, 4, .inl t_brown)), (rA, .inr (3, [.int r_radius, .int r_skin, .int r_filling, .int r_water, .int r_ends, .int r_thin, .int r_chance, .int r_bentFace, .int r_bentBy, .int (nI r_doings), .ref rA_kinds, .ref rA_firsts, .ref rA_seconds]))]) [0, 1] [2, 3] [2, 3, 0, 1] 0 1 ⟨hx, hb, hml, hown, hts⟩ hK hX hP hD hS hA (m_X1_fireFaces l g tA tA_degrees tA_brown t_down t_core t_water t_pricked t_thinSpots t_seconds t_gone t_splitAt t_steam t_degrees a3) (cwV 1 hts (x_gV kw_389 kw_390 kw_391 kw_25 kw_392) rfl rfl rfl vX1_fireFaces ⟨Nat.le_of_ble_eq_true rfl, Nat.le_of_ble_eq_true rfl⟩) rfl rfl rfl rfl rfl rfl rfl (by decide) (fun _ => rfl) rfl rfl hl.1 rfl (Nat.le_of_ble_eq_true rfl) dX1_pass_6 ⟨Nat.zero_le _, Nat.zero_le _⟩ (fun t_degrees_28 H locs hw_29 hP hD hS => ?_)
    have hP : va_P g.1 vwCl [(tA, .inr (1, [.int t_down, .ref tA_degrees, .ref tA_brown, .int t_core, .int t_water, .int t_pricked, .int t_thinSpots, .int t_seconds, .int t_gone, .int t_splitAt, .int t_steam])), (tA_degrees, .inl (g.2.1 0, 4, .inl t_degrees_28)), (tA_brown, .inl (g.2.1 0, 4, .inl t_brown)), (rA, .inr (3, [.int r_radius, .int r_skin, .int r_filling, .int r_water, .int r_ends, .int r_thin, .int r_chance, .int r_bentFace, .int r_bentBy, .int (nI r_doings), .ref rA_kinds, .ref rA_firsts, .ref rA_seconds]))] H := hP
    have hD : va_D A [(tA, .inr (1, [.int t_down, .ref tA_degrees, .ref tA_brown, .int t_core, .int t_water, .int t_pricked, .int t_thinSpots, .int t_seconds, .int t_gone, .int t_splitAt, .int t_steam])), (tA_degrees, .inl (g.2.1 0, 4, .inl t_degrees_28)), (tA_brown, .inl (g.2.1 0, 4, .inl t_brown)), (rA, .inr (3, [.int r_radius, .int r_skin, .int r_filling, .int r_water, .int r_ends, .int r_thin, .int r_chance, .int r_bentFace, .int r_bentBy, .int (nI r_doings), .ref rA_kinds, .ref rA_firsts, .ref rA_seconds]))] := hD
    have E := x_nm_eq E hw_29
    refine lv_goto (tgt := 17) hx hb dX1_pass_9 (by decide) ?_
    exact J_2 t_degrees_28 E  H locs ls hP hD hS (lv_sub hl [0, 1] rfl)
