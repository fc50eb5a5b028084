abbrev rJ0_coder_7d493 : Room := { frames := 0, cells := 0, slots := 0, locals := 0 }
theorem vJ0_coder_7d493 : yJ0_coder_7d493.cls = RJ0 ∧ yJ0_coder_7d493.cls ≠ "java/lang/invoke/MethodHandle" ∧ yJ0_coder_7d493.cls ≠ "java/lang/invoke/VarHandle" ∧ (parseMethodDescriptor yJ0_coder_7d493.desc).map (fun d => d.parameters.length) = some 0 := by decide +kernel
abbrev wJ0_coder_7d493 : List Cond := Cond.code yJ0_coder_7d493 cJ0_coder_7d493 1 (some .byte) :: wsL_law
def F_J0_coder_7d493 : Int32 :=
  x_nm (α := Int32) (if 1 = 0 then 0 else 0) fun u_2 => u_2
set_option maxHeartbeats 4000000 in
set_option maxRecDepth 100000 in
theorem m_J0_coder_7d493 (l : Launch) (g : x_G) (w : Nat) (h_0 : w < 6) : x_MetI l yJ0_coder_7d493 wJ0_coder_7d493 rJ0_coder_7d493 g [.ref (g.2.2 (10 + w))] [] (fun (r : Int32) (u : Unit) => r = F_J0_coder_7d493) (fun _ => []) := by
  refine x_startI (cc := cJ0_coder_7d493) (maxL := 1) (by decide) rfl (Nat.le_of_ble_eq_true rfl) ?_
  intro p e s m args below meth c Q A ls H locs hx hb hml hown hts hK hX hP hD hS hA hl RET
  have hown : s.vm.findClass RJ0 = some m.cls := hown
  have hl : lv_has ls 1 [(0, .ref (g.2.2 (10 + w)))] := hl
  obtain ⟨o_0, hO⟩ : ∃ z, z = F_J0_coder_7d493 := ⟨_, rfl⟩
  have E := hO
  rw [F_J0_coder_7d493.eq_1] at E
  refine va_gets hx hb hX.2.2.2.2.2.1 hS hown (hts _ kw_198) (fun _ h9 => h9) dJ0_coder_7d493_0 ?_
  obtain ⟨o_2, E_2, E⟩ := x_nm_ex E
  have J_2 : ∀ (v_1 : Int32), o_2 = v_1 → (v_1 = 0) → ∀ (H : Heap) (locs : List Loc) (ls : Array Slot), va_P g.1 vwCl [] H → va_D A [] → va_S A s.heap H locs → lv_has ls 1 [] → W p l e rJ0_coder_7d493 s m args below meth c H locs 0 0 Q (F0 m 14 ls [.int v_1]) := by
    intro v_1 hE f_2_0 H locs ls hP hD hS hl
    try rw [hE] at E
    exact RET v_1 () H locs _ _ (E.symm.trans hO) (by rw [show v_1 = 0 by assumption]; rfl) hP hD hS dJ0_coder_7d493_14
  have E := E_2
  refine x_if_eq (a := 1) (tgt := 13) hx hb (by omega) dJ0_coder_7d493_3 (by decide) (fun c_3 => ?_) (fun c_3 => ?_)
  · have E := x_pos E c_3
    exact absurd c_3 (by decide)
  · have E := x_neg E c_3
    refine lv_aload_n hx hb dJ0_coder_7d493_6 rfl (lv_at hl 0 rfl) ?_
    refine vk_getf (v := .int 0) hx hb (hX.2.2.2.2.1.1 w h_0).2.1 hS hown (hts _ kw_199) (fun _ h9 => h9) dJ0_coder_7d493_7 ?_
    refine lv_goto (tgt := 14) hx hb dJ0_coder_7d493_10 (by decide) ?_
    exact J_2 0 E (by first | omega | assumption | rfl | exact Or.inl rfl | exact Or.inr (by omega)) H locs ls hP hD hS (lv_sub hl [] rfl)
abbrev rJ0_isLatin1_aae02 : Room := { frames := 0, cells := 0, slots := 0, locals := 0 }
theorem vJ0_isLatin1_aae02 : yJ0_isLatin1_aae02.cls = RJ0 ∧ yJ0_isLatin1_aae02.cls ≠ "java/lang/invoke/MethodHandle" ∧ yJ0_isLatin1_aae02.cls ≠ "java/lang/invoke/VarHandle" ∧ (parseMethodDescriptor yJ0_isLatin1_aae02.desc).map (fun d => d.parameters.length) = some 0 := by decide +kernel
abbrev wJ0_isLatin1_aae02 : List Cond := Cond.code yJ0_isLatin1_aae02 cJ0_isLatin1_aae02 1 (some .boolean) :: wsL_law
def F_J0_isLatin1_aae02 : Int32 :=
  x_nm (α := Int32) (if 1 = 0 then 0 else if 0 = 0 then 1 else 0) fun u_2 => u_2
set_option maxHeartbeats 4000000 in
set_option maxRecDepth 100000 in
theorem m_J0_isLatin1_aae02 (l : Launch) (g : x_G) (w : Nat) (h_0 : w < 6) : x_MetI l yJ0_isLatin1_aae02 wJ0_isLatin1_aae02 rJ0_isLatin1_aae02 g [.ref (g.2.2 (10 + w))] [] (fun (r : Int32) (u : Unit) => (r = F_J0_isLatin1_aae02) ∧ (r = 0 ∨ r = 1)) (fun _ => []) := by
  refine x_startI (cc := cJ0_isLatin1_aae02) (maxL := 1) (by decide) rfl (Nat.le_of_ble_eq_true rfl) ?_
  intro p e s m args below meth c Q A ls H locs hx hb hml hown hts hK hX hP hD hS hA hl RET
  have hown : s.vm.findClass RJ0 = some m.cls := hown
  have hl : lv_has ls 1 [(0, .ref (g.2.2 (10 + w)))] := hl
  obtain ⟨o_0, hO⟩ : ∃ z, z = F_J0_isLatin1_aae02 := ⟨_, rfl⟩
  have E := hO
  rw [F_J0_isLatin1_aae02.eq_1] at E
  refine va_gets hx hb hX.2.2.2.2.2.1 hS hown (hts _ kw_198) (fun _ h9 => h9) dJ0_isLatin1_aae02_0 ?_
  obtain ⟨o_2, E_2, E⟩ := x_nm_ex E
  have J_2 : ∀ (v_1 : Int32), o_2 = v_1 → (v_1 = 0 ∨ v_1 = 1) → ∀ (H : Heap) (locs : List Loc) (ls : Array Slot), va_P g.1 vwCl [] H → va_D A [] → va_S A s.heap H locs → lv_has ls 1 [] → W p l e rJ0_isLatin1_aae02 s m args below meth c H locs 0 0 Q (F0 m 18 ls [.int v_1]) := by
    intro v_1 hE f_2_0 H locs ls hP hD hS hl
    try rw [hE] at E
    exact RET v_1 () H locs _ _ (⟨E.symm.trans hO, (by assumption)⟩) (x_nar (by assumption)) hP hD hS dJ0_isLatin1_aae02_18
  have E := E_2
  refine x_if_eq (a := 1) (tgt := 17) hx hb (by omega) dJ0_isLatin1_aae02_3 (by decide) (fun c_3 => ?_) (fun c_3 => ?_)
  · have E := x_pos E c_3
    refine lv_iconst (v := 0) hx hb dJ0_isLatin1_aae02_17 (by decide) ?_
    exact J_2 0 E (Or.inl rfl) H locs ls hP hD hS (lv_sub hl [] rfl)
  · have E := x_neg E c_3
    refine lv_aload_n hx hb dJ0_isLatin1_aae02_6 rfl (lv_at hl 0 rfl) ?_
    refine vk_getf (v := .int 0) hx hb (hX.2.2.2.2.1.1 w h_0).2.1 hS hown (hts _ kw_199) (fun _ h9 => h9) dJ0_isLatin1_aae02_7 ?_
    refine x_if_ne (a := 0) (tgt := 17) hx hb (by omega) dJ0_isLatin1_aae02_10 (by decide) (fun c_4 => ?_) (fun c_4 => ?_)
    · have E := x_neg E c_4
      refine lv_iconst (v := 0) hx hb dJ0_isLatin1_aae02_17 (by decide) ?_
      exact J_2 0 E (Or.inl rfl) H locs ls hP hD hS (lv_sub hl [] rfl)
    · have E := x_pos E c_4
      refine lv_iconst (v := 1) hx hb dJ0_isLatin1_aae02_13 (by decide) ?_
      refine lv_goto (tgt := 18) hx hb dJ0_isLatin1_aae02_14 (by decide) ?_
      exact J_2 1 E (Or.inr rfl) H locs ls hP hD hS (lv_sub hl [] rfl)
abbrev rJ0_length_8abf5 : Room := { frames := 1, cells := 0, slots := 0, locals := 20 }
theorem vJ0_length_8abf5 : yJ0_length_8abf5.cls = RJ0 ∧ yJ0_length_8abf5.cls ≠ "java/lang/invoke/MethodHandle" ∧ yJ0_length_8abf5.cls ≠ "java/lang/invoke/VarHandle" ∧ (parseMethodDescriptor yJ0_length_8abf5.desc).map (fun d => d.parameters.length) = some 0 := by decide +kernel
abbrev wJ0_length_8abf5 : List Cond := Cond.code yJ0_length_8abf5 cJ0_length_8abf5 1 (some .int) :: wsL_law
def F_J0_length_8abf5 (w : Nat) : Int32 :=
  x_nm (F_J0_coder_7d493) fun z_1 => (nI (x_lens.getD w 0)) >>> (z_1 &&& 31)
set_option maxHeartbeats 4000000 in
set_option maxRecDepth 100000 in
theorem m_J0_length_8abf5 (l : Launch) (g : x_G) (w : Nat) (h_0 : w < 6) : x_MetI l yJ0_length_8abf5 wJ0_length_8abf5 rJ0_length_8abf5 g [.ref (g.2.2 (10 + w))] [] (fun (r : Int32) (u : Unit) => r = F_J0_length_8abf5 w) (fun _ => []) := by
  refine x_startI (cc := cJ0_length_8abf5) (maxL := 1) (by decide) rfl (Nat.le_of_ble_eq_true rfl) ?_
  intro p e s m args below meth c Q A ls H locs hx hb hml hown hts hK hX hP hD hS hA hl RET
  have hown : s.vm.findClass RJ0 = some m.cls := hown
  have hl : lv_has ls 1 [(0, .ref (g.2.2 (10 + w)))] := hl
  obtain ⟨o_0, hO⟩ : ∃ z, z = F_J0_length_8abf5 w := ⟨_, rfl⟩
  have E := hO
  rw [F_J0_length_8abf5.eq_1] at E
  refine lv_aload_n hx hb dJ0_length_8abf5_0 rfl (lv_at hl 0 rfl) ?_
  refine vk_getf (v := .ref (g.2.2 (20 + w))) hx hb (hX.2.2.2.2.1.1 w h_0).2.2.1 hS hown (hts _ kw_193) (fun _ h9 => h9) dJ0_length_8abf5_1 ?_
  refine va_tlen (v := nI (x_lens.getD w 0)) hx hb (hX.2.2.2.2.1.1 w h_0).2.2.2 hS rfl dJ0_length_8abf5_4 ?_
  refine lv_aload_n hx hb dJ0_length_8abf5_5 rfl (lv_at hl 0 rfl) ?_
  refine x_callV0i ⟨hx, hb, hml, hown, hts⟩ hK hX hP hD hS hA (m_J0_coder_7d493 l g w (by first | assumption | omega | exact x_e8 (by assumption) (by assumption))) (cwV 0 hts (x_gV kw_194 kw_195 kw_196 kw_191 kw_197) rfl rfl rfl vJ0_coder_7d493 ⟨Nat.le_of_ble_eq_true rfl, Nat.le_of_ble_eq_true rfl⟩) (vk_recv (i := w) hX.2.2.2.2.1 (by omega) hS) rfl hl.1 rfl (Nat.le_of_ble_eq_true rfl) dJ0_length_8abf5_6 ⟨Nat.zero_le _, Nat.zero_le _⟩ (fun z_1 _ H locs hw_2 hP hD hS => ?_)
  have E := x_nm_eq E hw_2
  refine lv_ishr hx hb dJ0_length_8abf5_9 ?_
  exact RET ((nI (x_lens.getD w 0)) >>> (z_1 &&& 31)) () H locs _ _ (E.symm.trans hO) rfl hP hD hS dJ0_length_8abf5_10
theorem x_lenF (w : Nat) : F_J0_length_8abf5 w = nI (x_lens.getD w 0) := by
  simp only [F_J0_length_8abf5, F_J0_coder_7d493, x_nm]
  exact sb_shr0 _
abbrev rJ3_checkIndex_8e157 : Room := { frames := 0, cells := 0, slots := 0, locals := 0 }
theorem vJ3_checkIndex_8e157S : yJ3_checkIndex_8e157.cls ≠ "java/lang/invoke/MethodHandle" ∧ yJ3_checkIndex_8e157.cls ≠ "java/lang/invoke/VarHandle" ∧ (parseMethodDescriptor yJ3_checkIndex_8e157.desc).map (fun d => d.parameters.length) = some 3 := by decide +kernel
abbrev wJ3_checkIndex_8e157 : List Cond := Cond.code yJ3_checkIndex_8e157 cJ3_checkIndex_8e157 3 (some .int) :: wsL_law
def F_J3_checkIndex_8e157 (a1 : Nat) (a2 : Nat) : Int32 :=
  x_nm (α := Unit) (if (nI a1) < 0 then () else ()) fun _ => x_nm (α := Unit) (if a1 < a2 then () else ()) fun _ => nI a1
set_option maxHeartbeats 4000000 in
set_option maxRecDepth 100000 in
theorem m_J3_checkIndex_8e157 (l : Launch) (g : x_G) (a1 : Nat) (a2 : Nat) (a3 : Option Nat) (h_0 : a1 < a2) (h_1 : a2 < 1000) : x_MetI l yJ3_checkIndex_8e157 wJ3_checkIndex_8e157 rJ3_checkIndex_8e157 g [.int (nI a1), .int (nI a2), va_rf a3] [] (fun (r : Int32) (u : Unit) => r = F_J3_checkIndex_8e157 a1 a2) (fun _ => []) := by
  refine x_startI (cc := cJ3_checkIndex_8e157) (maxL := 3) (by decide) rfl (by cases a3 <;> exact Nat.le_of_ble_eq_true rfl) ?_
  intro p e s m args below meth c Q A ls H locs hx hb hml hown hts hK hX hP hD hS hA hl RET
  have hown : s.vm.findClass RJ3 = some m.cls := hown
  have hl : lv_has ls 3 [(0, .int (nI a1)), (1, .int (nI a2)), (2, va_rf a3)] := by cases a3 <;> exact hl
  obtain ⟨o_0, hO⟩ : ∃ z, z = F_J3_checkIndex_8e157 a1 a2 := ⟨_, rfl⟩
  have E := hO
  rw [F_J3_checkIndex_8e157.eq_1] at E
  refine lv_iload_n hx hb dJ3_checkIndex_8e157_0 rfl (lv_at hl 0 rfl) ?_
  obtain ⟨o_1, E_1, E⟩ := x_nm_ex E
  have J_1 : ∀ (_ : Unit), o_1 = () → ∀ (H : Heap) (locs : List Loc) (ls : Array Slot), va_P g.1 vwCl [] H → va_D A [] → va_S A s.heap H locs → lv_has ls 3 [(0, .int (nI a1)), (1, .int (nI a2))] → W p l e rJ3_checkIndex_8e157 s m args below meth c H locs 0 0 Q (F0 m 4 ls []) := by
    intro _ hE  H locs ls hP hD hS hl
    try rw [hE] at E
    refine lv_iload_n hx hb dJ3_checkIndex_8e157_4 rfl (lv_at hl 0 rfl) ?_
    refine lv_iload_n hx hb dJ3_checkIndex_8e157_5 rfl (lv_at hl 1 rfl) ?_
    obtain ⟨o_2, E_2, E⟩ := x_nm_ex E
    have J_2 : ∀ (_ : Unit), o_2 = () → ∀ (H : Heap) (locs : List Loc) (ls : Array Slot), va_P g.1 vwCl [] H → va_D A [] → va_S A s.heap H locs → lv_has ls 3 [(0, .int (nI a1))] → W p l e rJ3_checkIndex_8e157 s m args below meth c H locs 0 0 Q (F0 m 16 ls []) := by
      intro _ hE  H locs ls hP hD hS hl
      try rw [hE] at E
      refine lv_iload_n hx hb dJ3_checkIndex_8e157_16 rfl (lv_at hl 0 rfl) ?_
      exact RET (nI a1) () H locs _ _ (E.symm.trans hO) rfl hP hD hS dJ3_checkIndex_8e157_17
    have E := E_2
    refine x_icmp_lt (a := a1) (b := a2) (tgt := 16) hx hb (by omega) (by omega) dJ3_checkIndex_8e157_6 (by decide) (fun c_3 => ?_) (fun c_3 => ?_)
    · have E := x_pos E c_3
      exact J_2 () E  H locs ls hP hD hS (lv_sub hl [0] rfl)
    · have E := x_neg E c_3
      exact absurd h_0 c_3
  have E := E_1
  refine lv_if_lt (tgt := 9) hx hb dJ3_checkIndex_8e157_1 (by decide) (fun c_4 => ?_) (fun c_4 => ?_)
  · have E := x_pos E c_4
    exact absurd c_4 (nI_pos (by omega))
  · have E := x_neg E c_4
    exact J_1 () E  H locs ls hP hD hS (lv_sub hl [0, 1] rfl)
abbrev rJ0_checkIndex_df160 : Room := { frames := 1, cells := 0, slots := 0, locals := 22 }
theorem vJ0_checkIndex_df160S : yJ0_checkIndex_df160.cls ≠ "java/lang/invoke/MethodHandle" ∧ yJ0_checkIndex_df160.cls ≠ "java/lang/invoke/VarHandle" ∧ (parseMethodDescriptor yJ0_checkIndex_df160.desc).map (fun d => d.parameters.length) = some 2 := by decide +kernel
abbrev wJ0_checkIndex_df160 : List Cond := Cond.code yJ0_checkIndex_df160 cJ0_checkIndex_df160 2 none :: wsL_law
def F_J0_checkIndex_df160 (a1 : Nat) (a2 : Nat) : Unit :=
  x_nm (F_J3_checkIndex_8e157 a1 a2) fun z_1 => ()
set_option maxHeartbeats 4000000 in
set_option maxRecDepth 100000 in
theorem m_J0_checkIndex_df160 (l : Launch) (g : x_G) (a1 : Nat) (a2 : Nat) (h_0 : a1 < a2) (h_1 : a2 < 1000) : x_MetV l yJ0_checkIndex_df160 wJ0_checkIndex_df160 rJ0_checkIndex_df160 g [.int (nI a1), .int (nI a2)] [] (fun _ : Unit => True) (fun _ => []) := by
  refine x_startV (cc := cJ0_checkIndex_df160) (maxL := 2) (by decide) rfl (Nat.le_of_ble_eq_true rfl) ?_
  intro p e s m args below meth c Q A ls H locs hx hb hml hown hts hK hX hP hD hS hA hl RET
  have hown : s.vm.findClass RJ0 = some m.cls := hown
  have hl : lv_has ls 2 [(0, .int (nI a1)), (1, .int (nI a2))] := hl
  obtain ⟨o_0, hO⟩ : ∃ z, z = F_J0_checkIndex_df160 a1 a2 := ⟨_, rfl⟩
  have E := hO
  rw [F_J0_checkIndex_df160.eq_1] at E
  refine lv_iload_n hx hb dJ0_checkIndex_df160_0 rfl (lv_at hl 0 rfl) ?_
  refine lv_iload_n hx hb dJ0_checkIndex_df160_1 rfl (lv_at hl 1 rfl) ?_
  obtain ⟨sf, hsf⟩ := hX.2.2.2.2.2.2
  refine va_gets hx hb hsf hS hown (hts _ kw_215) (fun _ h9 => h9) dJ0_checkIndex_df160_2 ?_
  refine x_callS0 ⟨hx, hb, hml, hown, hts⟩ hK hX hP hD hS hA (m_J3_checkIndex_8e157 l g a1 a2 sf (by first | assumption | omega | exact x_e8 (by assumption) (by assumption)) (by first | assumption | omega | exact x_e8 (by assumption) (by assumption))) (va_cwS 3 hts (x_gS kw_216 kw_217 kw_218 kw_219) rfl rfl rfl vJ3_checkIndex_8e157S ⟨Nat.le_of_ble_eq_true rfl, Nat.le_of_ble_eq_true rfl⟩) rfl hl.1 rfl (Nat.le_of_ble_eq_true rfl) dJ0_checkIndex_df160_5 ⟨Nat.zero_le _, Nat.zero_le _⟩ (fun z_1 _ H locs hw_2 hP hD hS => ?_)
  have E := x_nm_eq E hw_2
  refine lv_pop hx hb dJ0_checkIndex_df160_8 rfl ?_
  exact RET () H locs _ _ (trivial) hP hD hS dJ0_checkIndex_df160_9
abbrev rJ1_charAt_3b067 : Room := { frames := 2, cells := 0, slots := 0, locals := 43 }
theorem vJ1_charAt_3b067S : yJ1_charAt_3b067.cls ≠ "java/lang/invoke/MethodHandle" ∧ yJ1_charAt_3b067.cls ≠ "java/lang/invoke/VarHandle" ∧ (parseMethodDescriptor yJ1_charAt_3b067.desc).map (fun d => d.parameters.length) = some 2 := by decide +kernel
abbrev wJ1_charAt_3b067 : List Cond := Cond.code yJ1_charAt_3b067 cJ1_charAt_3b067 2 (some .char) :: wsL_law
def F_J1_charAt_3b067 (w : Nat) (a2 : Nat) : Int32 :=
  ((((x_byts.getD w []).getD a2 0) &&& 255).toUInt32 % 65536).toInt32
set_option maxHeartbeats 4000000 in
set_option maxRecDepth 100000 in
theorem m_J1_charAt_3b067 (l : Launch) (g : x_G) (w : Nat) (a2 : Nat) (h_0 : w < 6) (h_1 : a2 < x_lens.getD w 0) : x_MetI l yJ1_charAt_3b067 wJ1_charAt_3b067 rJ1_charAt_3b067 g [.ref (g.2.2 (20 + w)), .int (nI a2)] [] (fun (r : Int32) (u : Unit) => r = F_J1_charAt_3b067 w a2) (fun _ => []) := by
  refine x_startI (cc := cJ1_charAt_3b067) (maxL := 2) (by decide) rfl (Nat.le_of_ble_eq_true rfl) ?_
  intro p e s m args below meth c Q A ls H locs hx hb hml hown hts hK hX hP hD hS hA hl RET
  have hown : s.vm.findClass RJ1 = some m.cls := hown
  have hl : lv_has ls 2 [(0, .ref (g.2.2 (20 + w))), (1, .int (nI a2))] := hl
  obtain ⟨o_0, hO⟩ : ∃ z, z = F_J1_charAt_3b067 w a2 := ⟨_, rfl⟩
  have E := hO
  rw [F_J1_charAt_3b067.eq_1] at E
  refine lv_iload_n hx hb dJ1_charAt_3b067_0 rfl (lv_at hl 1 rfl) ?_
  refine lv_aload_n hx hb dJ1_charAt_3b067_1 rfl (lv_at hl 0 rfl) ?_
  refine va_tlen (v := nI (x_lens.getD w 0)) hx hb (hX.2.2.2.2.1.1 w h_0).2.2.2 hS rfl dJ1_charAt_3b067_2 ?_
  have hxl := x_lens_le h_0
  refine x_callS0v ⟨hx, hb, hml, hown, hts⟩ hK hX hP hD hS hA (m_J0_checkIndex_df160 l g a2 (x_lens.getD w 0) (by first | assumption | omega | exact x_e8 (by assumption) (by assumption)) (by first | assumption | omega | exact x_e8 (by assumption) (by assumption))) (va_cwS 2 hts (x_gS kw_212 kw_213 kw_191 kw_214) rfl rfl rfl vJ0_checkIndex_df160S ⟨Nat.le_of_ble_eq_true rfl, Nat.le_of_ble_eq_true rfl⟩) rfl hl.1 rfl (Nat.le_of_ble_eq_true rfl) dJ1_charAt_3b067_3 ⟨Nat.zero_le _, Nat.zero_le _⟩ (fun _ H locs hw_1 hP hD hS => ?_)
  refine lv_aload_n hx hb dJ1_charAt_3b067_6 rfl (lv_at hl 0 rfl) ?_
  refine lv_iload_n hx hb dJ1_charAt_3b067_7 rfl (lv_at hl 1 rfl) ?_
  refine x_tbN a2 hx hb (hX.2.2.2.2.1.1 w h_0).2.2.2 hS (by omega) (x_lens_lt h_0) dJ1_charAt_3b067_8 ?_
  refine lv_sipush (v := 255) hx hb dJ1_charAt_3b067_9 (by decide) ?_
  refine lv_iand hx hb dJ1_charAt_3b067_12 ?_
  refine lv_i2c (v := ((((x_byts.getD w []).getD a2 0) &&& 255).toUInt32 % 65536).toInt32) hx hb dJ1_charAt_3b067_13 rfl ?_
  exact RET (((((x_byts.getD w []).getD a2 0) &&& 255).toUInt32 % 65536).toInt32) () H locs _ _ (E.symm.trans hO) (pk_nc _) hP hD hS dJ1_charAt_3b067_14
abbrev rJ0_charAt_5068e : Room := { frames := 3, cells := 0, slots := 0, locals := 64 }
theorem vJ0_charAt_5068e : yJ0_charAt_5068e.cls = RJ0 ∧ yJ0_charAt_5068e.cls ≠ "java/lang/invoke/MethodHandle" ∧ yJ0_charAt_5068e.cls ≠ "java/lang/invoke/VarHandle" ∧ (parseMethodDescriptor yJ0_charAt_5068e.desc).map (fun d => d.parameters.length) = some 1 := by decide +kernel
abbrev wJ0_charAt_5068e : List Cond := Cond.code yJ0_charAt_5068e cJ0_charAt_5068e 2 (some .char) :: wsL_law
def F_J0_charAt_5068e (w : Nat) (a1 : Nat) : Int32 :=
  x_nm (F_J0_isLatin1_aae02) fun z_1 => x_nm (α := Unit) (if z_1 = 0 then () else ()) fun _ => x_nm (F_J1_charAt_3b067 w a1) fun z_6 => z_6
set_option maxHeartbeats 4000000 in
set_option maxRecDepth 100000 in
theorem m_J0_charAt_5068e (l : Launch) (g : x_G) (w : Nat) (a1 : Nat) (h_0 : w < 6) (h_1 : a1 < x_lens.getD w 0) : x_MetI l yJ0_charAt_5068e wJ0_charAt_5068e rJ0_charAt_5068e g [.ref (g.2.2 (10 + w)), .int (nI a1)] [] (fun (r : Int32) (u : Unit) => r = F_J0_charAt_5068e w a1) (fun _ => []) := by
  refine x_startI (cc := cJ0_charAt_5068e) (maxL := 2) (by decide) rfl (Nat.le_of_ble_eq_true rfl) ?_
  intro p e s m args below meth c Q A ls H locs hx hb hml hown hts hK hX hP hD hS hA hl RET
  have hown : s.vm.findClass RJ0 = some m.cls := hown
  have hl : lv_has ls 2 [(0, .ref (g.2.2 (10 + w))), (1, .int (nI a1))] := hl
  obtain ⟨o_0, hO⟩ : ∃ z, z = F_J0_charAt_5068e w a1 := ⟨_, rfl⟩
  have E := hO
  rw [F_J0_charAt_5068e.eq_1] at E
  refine lv_aload_n hx hb dJ0_charAt_5068e_0 rfl (lv_at hl 0 rfl) ?_
  refine x_callV0i ⟨hx, hb, hml, hown, hts⟩ hK hX hP hD hS hA (m_J0_isLatin1_aae02 l g w (by first | assumption | omega | exact x_e8 (by assumption) (by assumption))) (cwV 0 hts (x_gV kw_204 kw_205 kw_206 kw_191 kw_207) rfl rfl rfl vJ0_isLatin1_aae02 ⟨Nat.le_of_ble_eq_true rfl, Nat.le_of_ble_eq_true rfl⟩) (vk_recv (i := w) hX.2.2.2.2.1 (by omega) hS) rfl hl.1 rfl (Nat.le_of_ble_eq_true rfl) dJ0_charAt_5068e_1 ⟨Nat.zero_le _, Nat.zero_le _⟩ (fun z_1 _ H locs hw_2 hP hD hS => ?_)
  obtain ⟨hw_2, b_3⟩ := hw_2
  have E := x_nm_eq E hw_2
  obtain ⟨o_5, E_5, E⟩ := x_nm_ex E
  have J_5 : ∀ (_ : Unit), o_5 = () → ∀ (H : Heap) (locs : List Loc) (ls : Array Slot), va_P g.1 vwCl [] H → va_D A [] → va_S A s.heap H locs → lv_has ls 2 [(0, .ref (g.2.2 (10 + w))), (1, .int (nI a1))] → W p l e rJ0_charAt_5068e s m args below meth c H locs 0 0 Q (F0 m 7 ls []) := by
    intro _ hE  H locs ls hP hD hS hl
    try rw [hE] at E
    refine lv_aload_n hx hb dJ0_charAt_5068e_7 rfl (lv_at hl 0 rfl) ?_
    refine vk_getf (v := .ref (g.2.2 (20 + w))) hx hb (hX.2.2.2.2.1.1 w h_0).2.2.1 hS hown (hts _ kw_193) (fun _ h9 => h9) dJ0_charAt_5068e_8 ?_
    refine lv_iload_n hx hb dJ0_charAt_5068e_11 rfl (lv_at hl 1 rfl) ?_
    refine x_callS0 ⟨hx, hb, hml, hown, hts⟩ hK hX hP hD hS hA (m_J1_charAt_3b067 l g w a1 (by first | assumption | omega | exact x_e8 (by assumption) (by assumption)) (by first | assumption | omega | exact x_e8 (by assumption) (by assumption))) (va_cwS 2 hts (x_gS kw_208 kw_209 kw_210 kw_211) rfl rfl rfl vJ1_charAt_3b067S ⟨Nat.le_of_ble_eq_true rfl, Nat.le_of_ble_eq_true rfl⟩) rfl hl.1 rfl (Nat.le_of_ble_eq_true rfl) dJ0_charAt_5068e_12 ⟨Nat.zero_le _, Nat.zero_le _⟩ (fun z_6 _ H locs hw_7 hP hD hS => ?_)
    have E := x_nm_eq E hw_7
    exact RET z_6 () H locs _ _ (E.symm.trans hO) (by rw [hw_7]; exact pk_nc _) hP hD hS dJ0_charAt_5068e_15
  have E := E_5
  refine lv_if_eq (tgt := 16) hx hb dJ0_charAt_5068e_4 (by decide) (fun c_9 => ?_) (fun c_9 => ?_)
  · have E := x_pos E c_9
    exact absurd (hw_2.symm.trans c_9) (by decide)
  · have E := x_neg E c_9
    exact J_5 () E  H locs ls hP hD hS (lv_sub hl [0, 1] rfl)
