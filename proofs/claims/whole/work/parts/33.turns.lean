/-! the steps of the law: turn, prick, spots, the tests, the images -/
theorem x_turn3 : ∀ d : Fin 4, ∀ j : Fin 4, (nI d.val + nI j.val) - (nI d.val + nI j.val) / 4 * 4 = (nI d.val + nI j.val) &&& 3 ∧ (nI d.val + nI j.val) &&& 3 = nI ((d.val + j.val) % 4) := by decide +kernel
theorem s_turn {t_kept : Nat → Int32} {t_heats : Nat → Int32} {t_salts : Nat → Int32} {t_crumbsOf : Nat → Int32} {t_tests : Nat} {t_traced : Int64} {r_radius : Int32} {r_skin : Int32} {r_filling : Int32} {r_water : Int32} {r_ends : Int32} {r_thin : Int32} {r_chance : Int32} {r_bentFace : Int32} {r_bentBy : Int32} {r_doings : Nat} {r_kinds : Nat → Int32} {r_firsts : Nat → Int32} {r_seconds : Nat → Int32} {d_seconds : Nat → Int32} {e_text : Nat → Int32} {e_length : Nat} {m_down : Int32} {m_degrees : Nat → Int32} {m_brown : Nat → Int32} {m_core : Int32} {m_water : Int32} {m_pricked : Int32} {m_thinSpots : Int32} {m_seconds : Int32} {m_gone : Int32} {m_splitAt : Int32} {m_steam : Int32} {i0_down : Int32} {i0_degrees : Nat → Int32} {i0_brown : Nat → Int32} {i0_core : Int32} {i0_water : Int32} {i0_pricked : Int32} {i0_thinSpots : Int32} {i0_seconds : Int32} {i0_gone : Int32} {i0_splitAt : Int32} {i0_steam : Int32} {i1_down : Int32} {i1_degrees : Nat → Int32} {i1_brown : Nat → Int32} {i1_core : Int32} {i1_water : Int32} {i1_pricked : Int32} {i1_thinSpots : Int32} {i1_seconds : Int32} {i1_gone : Int32} {i1_splitAt : Int32} {i1_steam : Int32} {u_length : Nat} {u_text : Nat → Int32} {u_is : Nat → Int32} {u_doings : Nat → Int32} {u_doing : Nat → Int32} {u_row : Nat → Int32} {u_isKept : Nat → Int32} {u_heats : Nat → Int32} {u_orders : Nat → Int32} {u_tests : Nat} {u_salt : Nat → Int32} {u_crumbs : Nat → Int32} {u_traced : Int64} {a1 : Int32} {m_down_125 : Int32} {u_row_129 : Nat → Int32} {z_126 z_130 : Int32} (hI : Inv (r_radius, r_skin, r_filling, r_water, r_ends, r_thin, r_chance, r_bentFace, r_bentBy, r_doings, r_kinds, r_firsts, r_seconds) e_length e_text (m_down, m_core, m_water, m_pricked, m_thinSpots, m_seconds, m_gone, m_splitAt, m_steam, m_degrees, m_brown) (i0_down, i0_core, i0_water, i0_pricked, i0_thinSpots, i0_seconds, i0_gone, i0_splitAt, i0_steam, i0_degrees, i0_brown) (i1_down, i1_core, i1_water, i1_pricked, i1_thinSpots, i1_seconds, i1_gone, i1_splitAt, i1_steam, i1_degrees, i1_brown) t_kept t_heats t_tests t_salts t_crumbsOf t_traced u_length u_text u_is u_doings u_doing u_row u_isKept u_heats u_orders u_tests u_salt u_crumbs u_traced d_seconds) (h4 : (z_126, m_down_125) = F_X4_turn m_down a1) (h5 : (z_130, u_row_129) = F_X5_turn u_row a1) : z_126 = z_130 ∧ Inv (r_radius, r_skin, r_filling, r_water, r_ends, r_thin, r_chance, r_bentFace, r_bentBy, r_doings, r_kinds, r_firsts, r_seconds) e_length e_text (m_down_125, m_core, m_water, m_pricked, m_thinSpots, m_seconds, m_gone, m_splitAt, m_steam, m_degrees, m_brown) (i0_down, i0_core, i0_water, i0_pricked, i0_thinSpots, i0_seconds, i0_gone, i0_splitAt, i0_steam, i0_degrees, i0_brown) (i1_down, i1_core, i1_water, i1_pricked, i1_thinSpots, i1_seconds, i1_gone, i1_splitAt, i1_steam, i1_degrees, i1_brown) t_kept t_heats t_tests t_salts t_crumbsOf t_traced u_length u_text u_is u_doings u_doing u_row_129 u_isKept u_heats u_orders u_tests u_salt u_crumbs u_traced d_seconds := by
  obtain ⟨hA, hB, hC, hD, hE⟩ := hI
  simp only [F_X4_turn, x_nm, F_X1_turnBy] at h4
  simp only [F_X5_turn, x_nm, F_X5_turns] at h5
  by_cases c1 : F_X4_outside a1 1 3 = 0
  · rw [if_pos c1] at h4
    rw [if_neg (x_ioN 1 3 (by decide) (by decide) c1)] at h5
    have d1 := x_outs (lo := 1) (hi := 3) (by decide) (by decide) c1
    obtain ⟨r0, r1, r2, r3, r4, r5, r6, r7, r8, r9⟩ := x_mom0 hC
    obtain ⟨⟨⟨d, hd, rfl⟩, hok⟩, -⟩ := hC
    have e := x_turn3 ⟨d, hd⟩ ⟨a1.toNatClampNeg, by omega⟩
    simp only at e
    simp only [Prod.mk.injEq, Nat.mul_zero, Nat.zero_add] at h4 h5
    rw [r9, e.1, e.2] at h5
    rw [e.2] at h4
    obtain ⟨rfl, rfl⟩ := h4
    obtain ⟨rfl, rfl⟩ := h5
    refine And.intro (x_updS _ _ _).symm (And.intro hA (And.intro hB (And.intro (x_mom0I (And.intro ⟨_, Nat.mod_lt _ (by omega), rfl⟩ hok) (fun f hf => ?_) ⟨?_, ?_, ?_, ?_, ?_, ?_, ?_, ?_, x_updS _ _ _⟩) (And.intro (x_kept_row hD (fun q hq => x_updN _ _ (by omega))) hE))))
    · rw [x_updN _ _ (by omega), x_updN _ _ (by omega)]
      exact r0 f hf
    all_goals (rw [x_updN _ _ (by omega)]; assumption)
  · rw [if_neg c1] at h4
    rw [if_pos (x_ioP 1 3 (by decide) (by decide) c1)] at h5
    simp only [Prod.mk.injEq] at h4 h5
    obtain ⟨rfl, rfl⟩ := h4
    obtain ⟨rfl, rfl⟩ := h5
    exact And.intro rfl (And.intro hA (And.intro hB (And.intro hC (And.intro hD hE))))
theorem x_btwN {x : Int32} {hi : Nat} (h : Btw 0 x (hi : Int)) : x = nI x.toNatClampNeg ∧ x.toNatClampNeg ≤ hi := by
  obtain ⟨h1, h2⟩ := h
  obtain ⟨h3, h4⟩ := x_tn (a := x) (by omega)
  exact ⟨h4, by omega⟩
theorem s_prick {t_kept : Nat → Int32} {t_heats : Nat → Int32} {t_salts : Nat → Int32} {t_crumbsOf : Nat → Int32} {t_tests : Nat} {t_traced : Int64} {r_radius : Int32} {r_skin : Int32} {r_filling : Int32} {r_water : Int32} {r_ends : Int32} {r_thin : Int32} {r_chance : Int32} {r_bentFace : Int32} {r_bentBy : Int32} {r_doings : Nat} {r_kinds : Nat → Int32} {r_firsts : Nat → Int32} {r_seconds : Nat → Int32} {d_seconds : Nat → Int32} {e_text : Nat → Int32} {e_length : Nat} {m_down : Int32} {m_degrees : Nat → Int32} {m_brown : Nat → Int32} {m_core : Int32} {m_water : Int32} {m_pricked : Int32} {m_thinSpots : Int32} {m_seconds : Int32} {m_gone : Int32} {m_splitAt : Int32} {m_steam : Int32} {i0_down : Int32} {i0_degrees : Nat → Int32} {i0_brown : Nat → Int32} {i0_core : Int32} {i0_water : Int32} {i0_pricked : Int32} {i0_thinSpots : Int32} {i0_seconds : Int32} {i0_gone : Int32} {i0_splitAt : Int32} {i0_steam : Int32} {i1_down : Int32} {i1_degrees : Nat → Int32} {i1_brown : Nat → Int32} {i1_core : Int32} {i1_water : Int32} {i1_pricked : Int32} {i1_thinSpots : Int32} {i1_seconds : Int32} {i1_gone : Int32} {i1_splitAt : Int32} {i1_steam : Int32} {u_length : Nat} {u_text : Nat → Int32} {u_is : Nat → Int32} {u_doings : Nat → Int32} {u_doing : Nat → Int32} {u_row : Nat → Int32} {u_isKept : Nat → Int32} {u_heats : Nat → Int32} {u_orders : Nat → Int32} {u_tests : Nat} {u_salt : Nat → Int32} {u_crumbs : Nat → Int32} {u_traced : Int64} {a1 : Int32} {m_pricked_133 : Int32} {u_row_137 : Nat → Int32} {z_134 z_138 : Int32} (hI : Inv (r_radius, r_skin, r_filling, r_water, r_ends, r_thin, r_chance, r_bentFace, r_bentBy, r_doings, r_kinds, r_firsts, r_seconds) e_length e_text (m_down, m_core, m_water, m_pricked, m_thinSpots, m_seconds, m_gone, m_splitAt, m_steam, m_degrees, m_brown) (i0_down, i0_core, i0_water, i0_pricked, i0_thinSpots, i0_seconds, i0_gone, i0_splitAt, i0_steam, i0_degrees, i0_brown) (i1_down, i1_core, i1_water, i1_pricked, i1_thinSpots, i1_seconds, i1_gone, i1_splitAt, i1_steam, i1_degrees, i1_brown) t_kept t_heats t_tests t_salts t_crumbsOf t_traced u_length u_text u_is u_doings u_doing u_row u_isKept u_heats u_orders u_tests u_salt u_crumbs u_traced d_seconds) (h4 : (z_134, m_pricked_133) = F_X4_prick m_pricked a1) (h5 : (z_138, u_row_137) = F_X5_prick u_row a1) : z_134 = z_138 ∧ Inv (r_radius, r_skin, r_filling, r_water, r_ends, r_thin, r_chance, r_bentFace, r_bentBy, r_doings, r_kinds, r_firsts, r_seconds) e_length e_text (m_down, m_core, m_water, m_pricked_133, m_thinSpots, m_seconds, m_gone, m_splitAt, m_steam, m_degrees, m_brown) (i0_down, i0_core, i0_water, i0_pricked, i0_thinSpots, i0_seconds, i0_gone, i0_splitAt, i0_steam, i0_degrees, i0_brown) (i1_down, i1_core, i1_water, i1_pricked, i1_thinSpots, i1_seconds, i1_gone, i1_splitAt, i1_steam, i1_degrees, i1_brown) t_kept t_heats t_tests t_salts t_crumbsOf t_traced u_length u_text u_is u_doings u_doing u_row_137 u_isKept u_heats u_orders u_tests u_salt u_crumbs u_traced d_seconds := by
  obtain ⟨hA, hB, hC, hD, hE⟩ := hI
  simp only [F_X4_prick, x_nm, F_X1_prickBy] at h4
  simp only [F_X5_prick, x_nm, F_X5_pricked] at h5
  by_cases c1 : F_X4_outside a1 1 9 = 0
  · rw [if_pos c1] at h4
    rw [if_neg (x_ioN 1 9 (by decide) (by decide) c1)] at h5
    have d1 := x_outs (lo := 1) (hi := 9) (by decide) (by decide) c1
    obtain ⟨r0, r1, r2, r3, r4, r5, r6, r7, r8, r9⟩ := x_mom0 hC
    obtain ⟨⟨k0, k1, k2, k3, k4⟩, -⟩ := hC
    simp only [Prod.mk.injEq, Nat.mul_zero, Nat.zero_add] at h4 h5
    rw [r3, x_minc] at h5
    obtain ⟨rfl, rfl⟩ := h4
    obtain ⟨rfl, rfl⟩ := h5
    refine And.intro (x_updS _ _ _).symm (And.intro hA (And.intro hB (And.intro (x_mom0I (And.intro k0 (And.intro k1 (And.intro k2 (And.intro ?_ k4)))) (fun f hf => ?_) ⟨?_, ?_, x_updS _ _ _, ?_, ?_, ?_, ?_, ?_, ?_⟩) (And.intro (x_kept_row hD (fun q hq => x_updN _ _ (by omega))) hE))))
    · obtain ⟨e1, e2⟩ := x_btwN (hi := 99) k3
      rw [e1, nI_add]
      generalize m_pricked.toNatClampNeg = a at *
      generalize a1.toNatClampNeg = b at *
      by_cases c : nI (a + b) < 99
      · rw [if_pos c]
        have c2 : (nI (a + b)).toInt < (99 : Int) := Int32.lt_iff_toInt_lt.mp c
        rw [nI_toInt (by omega)] at c2
        exact x_btw_nI (lo := 0) (hi := 99) (by omega) (by omega) (by decide)
      · rw [if_neg c]
        exact ⟨by decide, by decide⟩
    · rw [x_updN _ _ (by omega), x_updN _ _ (by omega)]
      exact r0 f hf
    all_goals (rw [x_updN _ _ (by omega)]; assumption)
  · rw [if_neg c1] at h4
    rw [if_pos (x_ioP 1 9 (by decide) (by decide) c1)] at h5
    simp only [Prod.mk.injEq] at h4 h5
    obtain ⟨rfl, rfl⟩ := h4
    obtain ⟨rfl, rfl⟩ := h5
    exact And.intro rfl (And.intro hA (And.intro hB (And.intro hC (And.intro hD hE))))
theorem s_spots {t_kept : Nat → Int32} {t_heats : Nat → Int32} {t_salts : Nat → Int32} {t_crumbsOf : Nat → Int32} {t_tests : Nat} {t_traced : Int64} {r_radius : Int32} {r_skin : Int32} {r_filling : Int32} {r_water : Int32} {r_ends : Int32} {r_thin : Int32} {r_chance : Int32} {r_bentFace : Int32} {r_bentBy : Int32} {r_doings : Nat} {r_kinds : Nat → Int32} {r_firsts : Nat → Int32} {r_seconds : Nat → Int32} {d_seconds : Nat → Int32} {e_text : Nat → Int32} {e_length : Nat} {m_down : Int32} {m_degrees : Nat → Int32} {m_brown : Nat → Int32} {m_core : Int32} {m_water : Int32} {m_pricked : Int32} {m_thinSpots : Int32} {m_seconds : Int32} {m_gone : Int32} {m_splitAt : Int32} {m_steam : Int32} {i0_down : Int32} {i0_degrees : Nat → Int32} {i0_brown : Nat → Int32} {i0_core : Int32} {i0_water : Int32} {i0_pricked : Int32} {i0_thinSpots : Int32} {i0_seconds : Int32} {i0_gone : Int32} {i0_splitAt : Int32} {i0_steam : Int32} {i1_down : Int32} {i1_degrees : Nat → Int32} {i1_brown : Nat → Int32} {i1_core : Int32} {i1_water : Int32} {i1_pricked : Int32} {i1_thinSpots : Int32} {i1_seconds : Int32} {i1_gone : Int32} {i1_splitAt : Int32} {i1_steam : Int32} {u_length : Nat} {u_text : Nat → Int32} {u_is : Nat → Int32} {u_doings : Nat → Int32} {u_doing : Nat → Int32} {u_row : Nat → Int32} {u_isKept : Nat → Int32} {u_heats : Nat → Int32} {u_orders : Nat → Int32} {u_tests : Nat} {u_salt : Nat → Int32} {u_crumbs : Nat → Int32} {u_traced : Int64} {a1 : Int32} {m_thinSpots_141 : Int32} {u_row_145 : Nat → Int32} {z_142 z_146 : Int32} (hI : Inv (r_radius, r_skin, r_filling, r_water, r_ends, r_thin, r_chance, r_bentFace, r_bentBy, r_doings, r_kinds, r_firsts, r_seconds) e_length e_text (m_down, m_core, m_water, m_pricked, m_thinSpots, m_seconds, m_gone, m_splitAt, m_steam, m_degrees, m_brown) (i0_down, i0_core, i0_water, i0_pricked, i0_thinSpots, i0_seconds, i0_gone, i0_splitAt, i0_steam, i0_degrees, i0_brown) (i1_down, i1_core, i1_water, i1_pricked, i1_thinSpots, i1_seconds, i1_gone, i1_splitAt, i1_steam, i1_degrees, i1_brown) t_kept t_heats t_tests t_salts t_crumbsOf t_traced u_length u_text u_is u_doings u_doing u_row u_isKept u_heats u_orders u_tests u_salt u_crumbs u_traced d_seconds) (h4 : (z_142, m_thinSpots_141) = F_X4_spots m_thinSpots a1) (h5 : (z_146, u_row_145) = F_X5_spots u_row a1) : z_142 = z_146 ∧ Inv (r_radius, r_skin, r_filling, r_water, r_ends, r_thin, r_chance, r_bentFace, r_bentBy, r_doings, r_kinds, r_firsts, r_seconds) e_length e_text (m_down, m_core, m_water, m_pricked, m_thinSpots_141, m_seconds, m_gone, m_splitAt, m_steam, m_degrees, m_brown) (i0_down, i0_core, i0_water, i0_pricked, i0_thinSpots, i0_seconds, i0_gone, i0_splitAt, i0_steam, i0_degrees, i0_brown) (i1_down, i1_core, i1_water, i1_pricked, i1_thinSpots, i1_seconds, i1_gone, i1_splitAt, i1_steam, i1_degrees, i1_brown) t_kept t_heats t_tests t_salts t_crumbsOf t_traced u_length u_text u_is u_doings u_doing u_row_145 u_isKept u_heats u_orders u_tests u_salt u_crumbs u_traced d_seconds := by
  obtain ⟨hA, hB, hC, hD, hE⟩ := hI
  simp only [F_X4_spots, x_nm] at h4
  simp only [F_X5_spots, x_nm] at h5
  by_cases c1 : F_X4_outside a1 0 15 = 0
  · rw [if_pos c1] at h4
    rw [if_neg (x_ioN 0 15 (by decide) (by decide) c1)] at h5
    have d1 := x_outs (lo := 0) (hi := 15) (by decide) (by decide) c1
    obtain ⟨r0, r1, r2, r3, r4, r5, r6, r7, r8, r9⟩ := x_mom0 hC
    obtain ⟨⟨k0, k1, k2, k3, k4, k5⟩, -⟩ := hC
    simp only [Prod.mk.injEq] at h4 h5
    rw [r4] at h5
    obtain ⟨rfl, rfl⟩ := h4
    obtain ⟨rfl, rfl⟩ := h5
    refine And.intro rfl (And.intro hA (And.intro hB (And.intro (x_mom0I (And.intro k0 (And.intro k1 (And.intro k2 (And.intro k3 (And.intro ?_ k5))))) (fun f hf => ?_) ⟨?_, ?_, ?_, x_updS _ _ _, ?_, ?_, ?_, ?_, ?_⟩) (And.intro (x_kept_row hD (fun q hq => x_updN _ _ (by omega))) hE))))
    · exact x_btw_nI (lo := 0) (hi := 15) (by omega) (by omega) (by decide)
    · rw [x_updN _ _ (by omega), x_updN _ _ (by omega)]
      exact r0 f hf
    all_goals (rw [x_updN _ _ (by omega)]; assumption)
  · rw [if_neg c1] at h4
    rw [if_pos (x_ioP 0 15 (by decide) (by decide) c1)] at h5
    simp only [Prod.mk.injEq] at h4 h5
    obtain ⟨rfl, rfl⟩ := h4
    obtain ⟨rfl, rfl⟩ := h5
    exact And.intro rfl (And.intro hA (And.intro hB (And.intro hC (And.intro hD hE))))
