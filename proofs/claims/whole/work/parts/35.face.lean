/-! the steps of the law: face, test -/
theorem x_face {core pricked thin gone steam radius skin filling thinBy bentFace bentBy : Int32} {degrees brown row is : Nat → Int32} {a1 a2 : Int32} (r0 : ∀ f : Nat, f < 4 → row f = degrees f ∧ row (5 + f) = brown f) (hp : F_X5_press is row 0 = F_X1_pressIn core pricked gone steam filling) (hh : ∀ f : Nat, f < 4 → F_X5_holdsAt is row 0 f = F_X1_strengthAt degrees thin f skin thinBy) (e0 : is 0 = radius) (e7 : is 7 = bentFace) (e8 : is 8 = bentBy) :
    F_X5_face is row a1 a2 = F_X4_face radius skin filling thinBy bentFace bentBy degrees brown core pricked thin gone steam a1 a2 := by
  rw [F_X4_face, F_X5_face, x_nmE (F_X4_outside a1 0 3), x_nmE (F_X5_in a1.toInt64 0 3)]
  by_cases c1 : F_X4_outside a1 0 3 = 0
  · have c15 := x_ioN (lo := 0) (hi := 3) 0 3 (by decide) (by decide) c1
    have d1 := x_outs (lo := 0) (hi := 3) (by decide) (by decide) c1
    rw [if_pos c1, if_neg c15, x_nmE, x_nmE, x_nmE a1.toNatClampNeg]
    by_cases c2 : F_X4_outside a2 0 3 = 0
    · have c25 := x_ioN (lo := 0) (hi := 3) 0 3 (by decide) (by decide) c2
      have d2 := x_outs (lo := 0) (hi := 3) (by decide) (by decide) c2
      rw [if_neg c25, x_nmE]
      generalize a2.toNatClampNeg = t at d2 ⊢
      generalize a1.toNatClampNeg = f at d1 ⊢
      obtain ⟨-, d2, rfl⟩ := d2
      have e : t = 0 ∨ t = 1 ∨ t = 2 ∨ t = 3 := by omega
      rcases e with rfl | rfl | rfl | rfl
      · rw [if_pos (by decide : nI 0 = 0), if_pos (rfl : (0 : Nat) = 0)]
        repeat rw [x_nmE]
        exact (r0 f (by omega)).1
      · rw [if_neg (by decide : ¬ nI 1 = 0), if_pos (by decide : nI 1 = 1), if_neg (by decide : ¬ (1 : Nat) = 0), if_pos (rfl : (1 : Nat) = 1)]
        repeat rw [x_nmE]
        exact (r0 f (by omega)).2
      · rw [if_neg (by decide : ¬ nI 2 = 0), if_neg (by decide : ¬ nI 2 = 1), if_pos (by decide : nI 2 = 2), if_neg (by decide : ¬ (2 : Nat) = 0), if_neg (by decide : ¬ (2 : Nat) = 1), if_pos (rfl : (2 : Nat) = 2)]
        repeat rw [x_nmE]
        exact hh f (by omega)
      · rw [if_neg (by decide : ¬ nI 3 = 0), if_neg (by decide : ¬ nI 3 = 1), if_neg (by decide : ¬ nI 3 = 2), if_pos (by decide : nI 3 = 3), if_neg (by decide : ¬ (3 : Nat) = 0), if_neg (by decide : ¬ (3 : Nat) = 1), if_neg (by decide : ¬ (3 : Nat) = 2)]
        repeat rw [x_nmE]
        rw [hp, F_X5_pulls, F_X1_pullRound]
        repeat rw [x_nmE]
        rw [e0, e7, e8]
    · have c25 := x_ioP (lo := 0) (hi := 3) 0 3 (by decide) (by decide) c2
      rw [if_pos c25]
      rw [if_neg, if_neg, if_neg, if_neg]
      all_goals (intro e; subst e; exact c2 (by decide))
  · have c15 := x_ioP (lo := 0) (hi := 3) 0 3 (by decide) (by decide) c1
    rw [if_neg c1, if_pos c15]
theorem s_face {t_kept : Nat → Int32} {t_heats : Nat → Int32} {t_salts : Nat → Int32} {t_crumbsOf : Nat → Int32} {t_tests : Nat} {t_traced : Int64} {r_radius : Int32} {r_skin : Int32} {r_filling : Int32} {r_water : Int32} {r_ends : Int32} {r_thin : Int32} {r_chance : Int32} {r_bentFace : Int32} {r_bentBy : Int32} {r_doings : Nat} {r_kinds : Nat → Int32} {r_firsts : Nat → Int32} {r_seconds : Nat → Int32} {d_seconds : Nat → Int32} {e_text : Nat → Int32} {e_length : Nat} {m_down : Int32} {m_degrees : Nat → Int32} {m_brown : Nat → Int32} {m_core : Int32} {m_water : Int32} {m_pricked : Int32} {m_thinSpots : Int32} {m_seconds : Int32} {m_gone : Int32} {m_splitAt : Int32} {m_steam : Int32} {i0_down : Int32} {i0_degrees : Nat → Int32} {i0_brown : Nat → Int32} {i0_core : Int32} {i0_water : Int32} {i0_pricked : Int32} {i0_thinSpots : Int32} {i0_seconds : Int32} {i0_gone : Int32} {i0_splitAt : Int32} {i0_steam : Int32} {i1_down : Int32} {i1_degrees : Nat → Int32} {i1_brown : Nat → Int32} {i1_core : Int32} {i1_water : Int32} {i1_pricked : Int32} {i1_thinSpots : Int32} {i1_seconds : Int32} {i1_gone : Int32} {i1_splitAt : Int32} {i1_steam : Int32} {u_length : Nat} {u_text : Nat → Int32} {u_is : Nat → Int32} {u_doings : Nat → Int32} {u_doing : Nat → Int32} {u_row : Nat → Int32} {u_isKept : Nat → Int32} {u_heats : Nat → Int32} {u_orders : Nat → Int32} {u_tests : Nat} {u_salt : Nat → Int32} {u_crumbs : Nat → Int32} {u_traced : Int64} {a1 : Int32} {a2 : Int32} {z_149 z_152 : Int32} (hI : Inv (r_radius, r_skin, r_filling, r_water, r_ends, r_thin, r_chance, r_bentFace, r_bentBy, r_doings, r_kinds, r_firsts, r_seconds) e_length e_text (m_down, m_core, m_water, m_pricked, m_thinSpots, m_seconds, m_gone, m_splitAt, m_steam, m_degrees, m_brown) (i0_down, i0_core, i0_water, i0_pricked, i0_thinSpots, i0_seconds, i0_gone, i0_splitAt, i0_steam, i0_degrees, i0_brown) (i1_down, i1_core, i1_water, i1_pricked, i1_thinSpots, i1_seconds, i1_gone, i1_splitAt, i1_steam, i1_degrees, i1_brown) t_kept t_heats t_tests t_salts t_crumbsOf t_traced u_length u_text u_is u_doings u_doing u_row u_isKept u_heats u_orders u_tests u_salt u_crumbs u_traced d_seconds) (h4 : z_149 = F_X4_face r_radius r_skin r_filling r_thin r_bentFace r_bentBy m_degrees m_brown m_core m_pricked m_thinSpots m_gone m_steam a1 a2) (h5 : z_152 = F_X5_face u_is u_row a1 a2) : z_149 = z_152 ∧ Inv (r_radius, r_skin, r_filling, r_water, r_ends, r_thin, r_chance, r_bentFace, r_bentBy, r_doings, r_kinds, r_firsts, r_seconds) e_length e_text (m_down, m_core, m_water, m_pricked, m_thinSpots, m_seconds, m_gone, m_splitAt, m_steam, m_degrees, m_brown) (i0_down, i0_core, i0_water, i0_pricked, i0_thinSpots, i0_seconds, i0_gone, i0_splitAt, i0_steam, i0_degrees, i0_brown) (i1_down, i1_core, i1_water, i1_pricked, i1_thinSpots, i1_seconds, i1_gone, i1_splitAt, i1_steam, i1_degrees, i1_brown) t_kept t_heats t_tests t_salts t_crumbsOf t_traced u_length u_text u_is u_doings u_doing u_row u_isKept u_heats u_orders u_tests u_salt u_crumbs u_traced d_seconds := by
  refine And.intro ?_ hI
  obtain ⟨⟨-, ⟨e0, e1, e2, e3, e4, e5, e6, e7, e8⟩, -⟩, -, hM, -⟩ := hI
  rw [h4, h5]
  exact (x_face (x_mom0 hM).1 (x_press hM e2) (fun f hf => x_holdsAt hM e1 e5 hf) e0 e7 e8).symm

theorem s_test {t_kept : Nat → Int32} {t_heats : Nat → Int32} {t_salts : Nat → Int32} {t_crumbsOf : Nat → Int32} {t_tests : Nat} {t_traced : Int64} {r_radius : Int32} {r_skin : Int32} {r_filling : Int32} {r_water : Int32} {r_ends : Int32} {r_thin : Int32} {r_chance : Int32} {r_bentFace : Int32} {r_bentBy : Int32} {r_doings : Nat} {r_kinds : Nat → Int32} {r_firsts : Nat → Int32} {r_seconds : Nat → Int32} {d_seconds : Nat → Int32} {e_text : Nat → Int32} {e_length : Nat} {m_down : Int32} {m_degrees : Nat → Int32} {m_brown : Nat → Int32} {m_core : Int32} {m_water : Int32} {m_pricked : Int32} {m_thinSpots : Int32} {m_seconds : Int32} {m_gone : Int32} {m_splitAt : Int32} {m_steam : Int32} {i0_down : Int32} {i0_degrees : Nat → Int32} {i0_brown : Nat → Int32} {i0_core : Int32} {i0_water : Int32} {i0_pricked : Int32} {i0_thinSpots : Int32} {i0_seconds : Int32} {i0_gone : Int32} {i0_splitAt : Int32} {i0_steam : Int32} {i1_down : Int32} {i1_degrees : Nat → Int32} {i1_brown : Nat → Int32} {i1_core : Int32} {i1_water : Int32} {i1_pricked : Int32} {i1_thinSpots : Int32} {i1_seconds : Int32} {i1_gone : Int32} {i1_splitAt : Int32} {i1_steam : Int32} {u_length : Nat} {u_text : Nat → Int32} {u_is : Nat → Int32} {u_doings : Nat → Int32} {u_doing : Nat → Int32} {u_row : Nat → Int32} {u_isKept : Nat → Int32} {u_heats : Nat → Int32} {u_orders : Nat → Int32} {u_tests : Nat} {u_salt : Nat → Int32} {u_crumbs : Nat → Int32} {u_traced : Int64} {a1 : Int32} {a2 : Int32} {t_tests_419 : Nat} {t_salts_420 : Nat → Int32} {t_crumbsOf_421 : Nat → Int32} {u_tests_425 : Nat} {u_salt_426 : Nat → Int32} {u_crumbs_427 : Nat → Int32} {z_422 z_428 : Int32} (hI : Inv (r_radius, r_skin, r_filling, r_water, r_ends, r_thin, r_chance, r_bentFace, r_bentBy, r_doings, r_kinds, r_firsts, r_seconds) e_length e_text (m_down, m_core, m_water, m_pricked, m_thinSpots, m_seconds, m_gone, m_splitAt, m_steam, m_degrees, m_brown) (i0_down, i0_core, i0_water, i0_pricked, i0_thinSpots, i0_seconds, i0_gone, i0_splitAt, i0_steam, i0_degrees, i0_brown) (i1_down, i1_core, i1_water, i1_pricked, i1_thinSpots, i1_seconds, i1_gone, i1_splitAt, i1_steam, i1_degrees, i1_brown) t_kept t_heats t_tests t_salts t_crumbsOf t_traced u_length u_text u_is u_doings u_doing u_row u_isKept u_heats u_orders u_tests u_salt u_crumbs u_traced d_seconds) (h4 : (z_422, t_tests_419, t_salts_420, t_crumbsOf_421) = F_X4_test t_salts t_crumbsOf t_tests a1 a2) (h5 : (z_428, u_tests_425, u_salt_426, u_crumbs_427) = F_X5_test u_tests u_salt u_crumbs a1 a2) : z_422 = z_428 ∧ Inv (r_radius, r_skin, r_filling, r_water, r_ends, r_thin, r_chance, r_bentFace, r_bentBy, r_doings, r_kinds, r_firsts, r_seconds) e_length e_text (m_down, m_core, m_water, m_pricked, m_thinSpots, m_seconds, m_gone, m_splitAt, m_steam, m_degrees, m_brown) (i0_down, i0_core, i0_water, i0_pricked, i0_thinSpots, i0_seconds, i0_gone, i0_splitAt, i0_steam, i0_degrees, i0_brown) (i1_down, i1_core, i1_water, i1_pricked, i1_thinSpots, i1_seconds, i1_gone, i1_splitAt, i1_steam, i1_degrees, i1_brown) t_kept t_heats t_tests_419 t_salts_420 t_crumbsOf_421 t_traced u_length u_text u_is u_doings u_doing u_row u_isKept u_heats u_orders u_tests_425 u_salt_426 u_crumbs_427 u_traced d_seconds := by
  obtain ⟨hA, hB, hC, hD, hE, ⟨hT1, hT2, hT3⟩, hF⟩ := hI
  subst hT2
  simp only [F_X4_test, x_nm] at h4
  simp only [F_X5_test, x_nm] at h5
  by_cases c1 : F_X4_outside a1 0 30 = 0
  · rw [if_pos c1] at h4
    rw [if_neg (x_ioN 0 30 (by decide) (by decide) c1)] at h5
    have d1 := x_outs (lo := 0) (hi := 30) (by decide) (by decide) c1
    by_cases c2 : F_X4_outside a2 0 999 = 0
    · rw [if_pos c2] at h4
      rw [if_neg (x_ioN 0 999 (by decide) (by decide) c2)] at h5
      have d2 := x_outs (lo := 0) (hi := 999) (by decide) (by decide) c2
      by_cases c3 : F_X4_outside (nI u_tests) 0 19 = 0
      · have d3 := x_outsN (t := u_tests) (lo := 0) (hi := 19) (by omega) (by decide) (by decide) c3
        rw [if_pos c3] at h4
        rw [if_neg (by omega)] at h5
        simp only [Prod.mk.injEq] at h4 h5
        obtain ⟨rfl, rfl, rfl, rfl⟩ := h4
        obtain ⟨rfl, rfl, rfl, rfl⟩ := h5
        refine And.intro rfl (And.intro hA (And.intro hB (And.intro hC (And.intro hD (And.intro hE (And.intro (And.intro (by omega) (And.intro rfl (fun q hq => ?_))) hF))))))
        by_cases e : q = u_tests
        · subst e
          rw [x_updS, x_updS, x_updS, x_updS]
          exact ⟨rfl, rfl, fun _ => ⟨x_btw_nI (lo := 0) (hi := 30) (by omega) (by omega) (by decide), x_btw_nI (lo := 0) (hi := 999) (by omega) (by omega) (by decide)⟩⟩
        · rw [x_updN _ _ e, x_updN _ _ e, x_updN _ _ e, x_updN _ _ e]
          exact ⟨(hT3 q hq).1, (hT3 q hq).2.1, fun h => (hT3 q hq).2.2 (by omega)⟩
      · have d3 : u_tests = 20 := Decidable.not_not.mp fun z => c3 ((x_outside_iff _ _ _).mpr ⟨by
          rw [Int32.le_iff_toInt_le, nI_toInt (by omega)]
          exact Int.natCast_nonneg _, by
          rw [Int32.le_iff_toInt_le, nI_toInt (by omega)]
          show (u_tests : Int) ≤ 19
          omega⟩)
        rw [if_neg c3] at h4
        rw [if_pos d3] at h5
        simp only [Prod.mk.injEq] at h4 h5
        obtain ⟨rfl, rfl, rfl, rfl⟩ := h4
        obtain ⟨rfl, rfl, rfl, rfl⟩ := h5
        exact And.intro rfl (And.intro hA (And.intro hB (And.intro hC (And.intro hD (And.intro hE (And.intro (And.intro hT1 (And.intro rfl hT3)) hF))))))
    · rw [if_neg c2] at h4
      rw [if_pos (x_ioP 0 999 (by decide) (by decide) c2)] at h5
      simp only [Prod.mk.injEq] at h4 h5
      obtain ⟨rfl, rfl, rfl, rfl⟩ := h4
      obtain ⟨rfl, rfl, rfl, rfl⟩ := h5
      exact And.intro rfl (And.intro hA (And.intro hB (And.intro hC (And.intro hD (And.intro hE (And.intro (And.intro hT1 (And.intro rfl hT3)) hF))))))
  · rw [if_neg c1] at h4
    rw [if_pos (x_ioP 0 30 (by decide) (by decide) c1)] at h5
    simp only [Prod.mk.injEq] at h4 h5
    obtain ⟨rfl, rfl, rfl, rfl⟩ := h4
    obtain ⟨rfl, rfl, rfl, rfl⟩ := h5
    exact And.intro rfl (And.intro hA (And.intro hB (And.intro hC (And.intro hD (And.intro hE (And.intro (And.intro hT1 (And.intro rfl hT3)) hF))))))
