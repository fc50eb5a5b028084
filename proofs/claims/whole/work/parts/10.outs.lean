abbrev rX4_outside : Room := { frames := 0, cells := 0, slots := 0, locals := 0 }
theorem vX4_outsideS : yX4_outside.cls ≠ "java/lang/invoke/MethodHandle" ∧ yX4_outside.cls ≠ "java/lang/invoke/VarHandle" ∧ (parseMethodDescriptor yX4_outside.desc).map (fun d => d.parameters.length) = some 3 := by decide +kernel
abbrev wX4_outside : List Cond := Cond.code yX4_outside cX4_outside 3 (some .boolean) :: wsL_law
def F_X4_outside (a1 : Int32) (a2 : Int32) (a3 : Int32) : Int32 :=
  x_nm (α := Int32) (if a1 < a2 then 1 else if a1 ≤ a3 then 0 else 1) fun u_2 => u_2
set_option maxHeartbeats 4000000 in
set_option maxRecDepth 100000 in
theorem m_X4_outside (l : Launch) (g : x_G) (a1 : Int32) (a2 : Int32) (a3 : Int32) : x_MetI l yX4_outside wX4_outside rX4_outside g [.int a1, .int a2, .int a3] [] (fun (r : Int32) (u : Unit) => (r = F_X4_outside a1 a2 a3) ∧ (r = 0 ∨ r = 1)) (fun _ => []) := by
  refine x_startI (cc := cX4_outside) (maxL := 3) (by decide) rfl (Nat.le_of_ble_eq_true rfl) ?_
  intro p e s m args below meth c Q A ls H locs hx hb hml hown hts hK hX hP hD hS hA hl RET
  have hown : s.vm.findClass RX4 = some m.cls := hown
  have hl : lv_has ls 3 [(0, .int a1), (1, .int a2), (2, .int a3)] := hl
  obtain ⟨o_0, hO⟩ : ∃ z, z = F_X4_outside a1 a2 a3 := ⟨_, rfl⟩
  have E := hO
  rw [F_X4_outside.eq_1] at E
  refine lv_iload_n hx hb dX4_outside_0 rfl (lv_at hl 0 rfl) ?_
  refine lv_iload_n hx hb dX4_outside_1 rfl (lv_at hl 1 rfl) ?_
  obtain ⟨o_2, E_2, E⟩ := x_nm_ex E
  have J_2 : ∀ (v_1 : Int32), o_2 = v_1 → (v_1 = 0 ∨ v_1 = 1) → ∀ (H : Heap) (locs : List Loc) (ls : Array Slot), va_P g.1 vwCl [] H → va_D A [] → va_S A s.heap H locs → lv_has ls 3 [] → W p l e rX4_outside s m args below meth c H locs 0 0 Q (F0 m 15 ls [.int v_1]) := by
    intro v_1 hE f_2_0 H locs ls hP hD hS hl
    try rw [hE] at E
    exact RET v_1 () H locs _ _ (⟨E.symm.trans hO, (by assumption)⟩) (x_nar (by assumption)) hP hD hS dX4_outside_15
  have E := E_2
  refine lv_icmp_lt (tgt := 10) hx hb dX4_outside_2 (by decide) (fun c_3 => ?_) (fun c_3 => ?_)
  · have E := x_pos E c_3
    refine lv_iconst (v := 1) hx hb dX4_outside_10 (by decide) ?_
    refine lv_goto (tgt := 15) hx hb dX4_outside_11 (by decide) ?_
    exact J_2 1 E (Or.inr rfl) H locs ls hP hD hS (lv_sub hl [] rfl)
  · have E := x_neg E c_3
    refine lv_iload_n hx hb dX4_outside_5 rfl (lv_at hl 0 rfl) ?_
    refine lv_iload_n hx hb dX4_outside_6 rfl (lv_at hl 2 rfl) ?_
    refine lv_icmp_le (tgt := 14) hx hb dX4_outside_7 (by decide) (fun c_4 => ?_) (fun c_4 => ?_)
    · have E := x_pos E c_4
      refine lv_iconst (v := 0) hx hb dX4_outside_14 (by decide) ?_
      exact J_2 0 E (Or.inl rfl) H locs ls hP hD hS (lv_sub hl [] rfl)
    · have E := x_neg E c_4
      refine lv_iconst (v := 1) hx hb dX4_outside_10 (by decide) ?_
      refine lv_goto (tgt := 15) hx hb dX4_outside_11 (by decide) ?_
      exact J_2 1 E (Or.inr rfl) H locs ls hP hD hS (lv_sub hl [] rfl)
theorem x_outside_iff (a lo hi : Int32) : F_X4_outside a lo hi = 0 ↔ lo ≤ a ∧ a ≤ hi := by
  simp only [F_X4_outside, x_nm]
  by_cases h1 : a < lo
  · rw [if_pos h1]
    exact ⟨fun h => absurd h (by decide), fun h => absurd h1 (Int32.not_lt.mpr h.1)⟩
  · rw [if_neg h1]
    by_cases h2 : a ≤ hi
    · rw [if_pos h2]; exact ⟨fun _ => ⟨Int32.not_lt.mp h1, h2⟩, fun _ => rfl⟩
    · rw [if_neg h2]; exact ⟨fun h => absurd h (by decide), fun h => absurd h.2 h2⟩
theorem x_tn {a : Int32} (h : 0 ≤ a.toInt) : a.toInt = (a.toNatClampNeg : Int) ∧ a = nI a.toNatClampNeg := by
  have h1 : (a.toNatClampNeg : Int) = a.toInt := by rw [Int32.toNatClampNeg, Int.toNat_of_nonneg h]
  refine ⟨h1.symm, Int32.toInt_inj.mp ?_⟩
  rw [nI_toInt (by have := Int32.toInt_lt a; omega)]
  exact h1.symm
theorem x_outs {a : Int32} {lo hi : Nat} (hlo : lo < 2 ^ 31) (hhi : hi < 2 ^ 31) (h : F_X4_outside a (nI lo) (nI hi) = 0) : lo ≤ a.toNatClampNeg ∧ a.toNatClampNeg ≤ hi ∧ a = nI a.toNatClampNeg := by
  obtain ⟨h1, h2⟩ := (x_outside_iff _ _ _).mp h
  rw [Int32.le_iff_toInt_le, nI_toInt hlo] at h1
  rw [Int32.le_iff_toInt_le, nI_toInt hhi] at h2
  obtain ⟨h3, h4⟩ := x_tn (a := a) (by omega)
  exact ⟨by omega, by omega, h4⟩
theorem x_outsN {t lo hi : Nat} (ht : t < 2 ^ 31) (hlo : lo < 2 ^ 31) (hhi : hi < 2 ^ 31) (h : F_X4_outside (nI t) (nI lo) (nI hi) = 0) : lo ≤ t ∧ t ≤ hi := by
  obtain ⟨h1, h2⟩ := (x_outside_iff _ _ _).mp h
  exact ⟨(nI_leI hlo ht).mp h1, (nI_leI ht hhi).mp h2⟩
theorem x_outsM {a : Int32} {d : Nat} (hd : d < 2 ^ 31) (h : F_X4_outside a 0 (nI d - 1) = 0) : 0 ≤ a.toNatClampNeg ∧ a.toNatClampNeg < d ∧ a = nI a.toNatClampNeg := by
  obtain ⟨h1, h2⟩ := (x_outside_iff _ _ _).mp h
  rw [Int32.le_iff_toInt_le, Int32.toInt_zero] at h1
  rw [Int32.le_iff_toInt_le] at h2
  obtain ⟨h3, h4⟩ := x_tn h1
  refine ⟨Nat.zero_le _, ?_, h4⟩
  rcases Nat.eq_zero_or_pos d with rfl | hp
  · have e : (nI 0 - 1 : Int32).toInt = -1 := by decide
    rw [e] at h2
    omega
  · have e : (nI d - 1 : Int32) = nI (d - 1) := by
      obtain ⟨k, rfl⟩ : ∃ k, d = k + 1 := ⟨d - 1, by omega⟩
      exact nI_pred k
    rw [e, nI_toInt (by omega)] at h2
    omega
