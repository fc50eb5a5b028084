/-! the steps of the law, the easy ones -/
theorem x_inL {a : Int32} {lo hi : Int64} (lo' hi' : Int32) (h1 : lo = lo'.toInt64) (h2 : hi = hi'.toInt64) : F_X5_in a.toInt64 lo hi = 0 ↔ ¬ F_X4_outside a lo' hi' = 0 := by
  subst h1
  subst h2
  have h := x_in_iff a lo' hi'
  have h3 := x_outside_iff a lo' hi'
  rw [h3, ← h, Decidable.not_not]
theorem x_ioN {a : Int32} {lo hi : Int64} (lo' hi' : Int32) (h1 : lo = lo'.toInt64) (h2 : hi = hi'.toInt64) (h : F_X4_outside a lo' hi' = 0) : ¬ F_X5_in a.toInt64 lo hi = 0 := fun q => (x_inL lo' hi' h1 h2).mp q h
theorem x_ioP {a : Int32} {lo hi : Int64} (lo' hi' : Int32) (h1 : lo = lo'.toInt64) (h2 : hi = hi'.toInt64) (h : ¬ F_X4_outside a lo' hi' = 0) : F_X5_in a.toInt64 lo hi = 0 := (x_inL lo' hi' h1 h2).mpr h
theorem s_clear {t_kept : Nat → Int32} {t_heats : Nat → Int32} {t_salts : Nat → Int32} {t_crumbsOf : Nat → Int32} {t_tests : Nat} {t_traced : Int64} {r_radius : Int32} {r_skin : Int32} {r_filling : Int32} {r_water : Int32} {r_ends : Int32} {r_thin : Int32} {r_chance : Int32} {r_bentFace : Int32} {r_bentBy : Int32} {r_doings : Nat} {r_kinds : Nat → Int32} {r_firsts : Nat → Int32} {r_seconds : Nat → Int32} {d_seconds : Nat → Int32} {e_text : Nat → Int32} {e_length : Nat} {m_down : Int32} {m_degrees : Nat → Int32} {m_brown : Nat → Int32} {m_core : Int32} {m_water : Int32} {m_pricked : Int32} {m_thinSpots : Int32} {m_seconds : Int32} {m_gone : Int32} {m_splitAt : Int32} {m_steam : Int32} {i0_down : Int32} {i0_degrees : Nat → Int32} {i0_brown : Nat → Int32} {i0_core : Int32} {i0_water : Int32} {i0_pricked : Int32} {i0_thinSpots : Int32} {i0_seconds : Int32} {i0_gone : Int32} {i0_splitAt : Int32} {i0_steam : Int32} {i1_down : Int32} {i1_degrees : Nat → Int32} {i1_brown : Nat → Int32} {i1_core : Int32} {i1_water : Int32} {i1_pricked : Int32} {i1_thinSpots : Int32} {i1_seconds : Int32} {i1_gone : Int32} {i1_splitAt : Int32} {i1_steam : Int32} {u_length : Nat} {u_text : Nat → Int32} {u_is : Nat → Int32} {u_doings : Nat → Int32} {u_doing : Nat → Int32} {u_row : Nat → Int32} {u_isKept : Nat → Int32} {u_heats : Nat → Int32} {u_orders : Nat → Int32} {u_tests : Nat} {u_salt : Nat → Int32} {u_crumbs : Nat → Int32} {u_traced : Int64} {e_length_11 : Nat} {u_length_15 : Nat} {z_12 z_16 : Int32} (hI : Inv (r_radius, r_skin, r_filling, r_water, r_ends, r_thin, r_chance, r_bentFace, r_bentBy, r_doings, r_kinds, r_firsts, r_seconds) e_length e_text (m_down, m_core, m_water, m_pricked, m_thinSpots, m_seconds, m_gone, m_splitAt, m_steam, m_degrees, m_brown) (i0_down, i0_core, i0_water, i0_pricked, i0_thinSpots, i0_seconds, i0_gone, i0_splitAt, i0_steam, i0_degrees, i0_brown) (i1_down, i1_core, i1_water, i1_pricked, i1_thinSpots, i1_seconds, i1_gone, i1_splitAt, i1_steam, i1_degrees, i1_brown) t_kept t_heats t_tests t_salts t_crumbsOf t_traced u_length u_text u_is u_doings u_doing u_row u_isKept u_heats u_orders u_tests u_salt u_crumbs u_traced d_seconds) (h4 : (z_12, e_length_11) = F_X4_clear e_length) (h5 : (z_16, u_length_15) = F_X5_clear u_length) : z_12 = z_16 ∧ Inv (r_radius, r_skin, r_filling, r_water, r_ends, r_thin, r_chance, r_bentFace, r_bentBy, r_doings, r_kinds, r_firsts, r_seconds) e_length_11 e_text (m_down, m_core, m_water, m_pricked, m_thinSpots, m_seconds, m_gone, m_splitAt, m_steam, m_degrees, m_brown) (i0_down, i0_core, i0_water, i0_pricked, i0_thinSpots, i0_seconds, i0_gone, i0_splitAt, i0_steam, i0_degrees, i0_brown) (i1_down, i1_core, i1_water, i1_pricked, i1_thinSpots, i1_seconds, i1_gone, i1_splitAt, i1_steam, i1_degrees, i1_brown) t_kept t_heats t_tests t_salts t_crumbsOf t_traced u_length_15 u_text u_is u_doings u_doing u_row u_isKept u_heats u_orders u_tests u_salt u_crumbs u_traced d_seconds := by
  obtain ⟨hA, ⟨a1, a2, a3⟩, hB⟩ := hI
  simp only [F_X4_clear, Prod.mk.injEq] at h4
  simp only [F_X5_clear, Prod.mk.injEq] at h5
  obtain ⟨rfl, rfl⟩ := h4
  obtain ⟨rfl, rfl⟩ := h5
  subst a2
  exact And.intro rfl (And.intro hA (And.intro (And.intro (Nat.zero_le _) (And.intro rfl (fun k hk => absurd hk (Nat.not_lt_zero _)))) hB))
theorem s_trace {t_kept : Nat → Int32} {t_heats : Nat → Int32} {t_salts : Nat → Int32} {t_crumbsOf : Nat → Int32} {t_tests : Nat} {t_traced : Int64} {r_radius : Int32} {r_skin : Int32} {r_filling : Int32} {r_water : Int32} {r_ends : Int32} {r_thin : Int32} {r_chance : Int32} {r_bentFace : Int32} {r_bentBy : Int32} {r_doings : Nat} {r_kinds : Nat → Int32} {r_firsts : Nat → Int32} {r_seconds : Nat → Int32} {d_seconds : Nat → Int32} {e_text : Nat → Int32} {e_length : Nat} {m_down : Int32} {m_degrees : Nat → Int32} {m_brown : Nat → Int32} {m_core : Int32} {m_water : Int32} {m_pricked : Int32} {m_thinSpots : Int32} {m_seconds : Int32} {m_gone : Int32} {m_splitAt : Int32} {m_steam : Int32} {i0_down : Int32} {i0_degrees : Nat → Int32} {i0_brown : Nat → Int32} {i0_core : Int32} {i0_water : Int32} {i0_pricked : Int32} {i0_thinSpots : Int32} {i0_seconds : Int32} {i0_gone : Int32} {i0_splitAt : Int32} {i0_steam : Int32} {i1_down : Int32} {i1_degrees : Nat → Int32} {i1_brown : Nat → Int32} {i1_core : Int32} {i1_water : Int32} {i1_pricked : Int32} {i1_thinSpots : Int32} {i1_seconds : Int32} {i1_gone : Int32} {i1_splitAt : Int32} {i1_steam : Int32} {u_length : Nat} {u_text : Nat → Int32} {u_is : Nat → Int32} {u_doings : Nat → Int32} {u_doing : Nat → Int32} {u_row : Nat → Int32} {u_isKept : Nat → Int32} {u_heats : Nat → Int32} {u_orders : Nat → Int32} {u_tests : Nat} {u_salt : Nat → Int32} {u_crumbs : Nat → Int32} {u_traced : Int64} {z_506 z_509 : Int64} (hI : Inv (r_radius, r_skin, r_filling, r_water, r_ends, r_thin, r_chance, r_bentFace, r_bentBy, r_doings, r_kinds, r_firsts, r_seconds) e_length e_text (m_down, m_core, m_water, m_pricked, m_thinSpots, m_seconds, m_gone, m_splitAt, m_steam, m_degrees, m_brown) (i0_down, i0_core, i0_water, i0_pricked, i0_thinSpots, i0_seconds, i0_gone, i0_splitAt, i0_steam, i0_degrees, i0_brown) (i1_down, i1_core, i1_water, i1_pricked, i1_thinSpots, i1_seconds, i1_gone, i1_splitAt, i1_steam, i1_degrees, i1_brown) t_kept t_heats t_tests t_salts t_crumbsOf t_traced u_length u_text u_is u_doings u_doing u_row u_isKept u_heats u_orders u_tests u_salt u_crumbs u_traced d_seconds) (h4 : z_506 = F_X4_trace t_traced) (h5 : z_509 = F_X5_trace u_traced) : z_506 = z_509 ∧ Inv (r_radius, r_skin, r_filling, r_water, r_ends, r_thin, r_chance, r_bentFace, r_bentBy, r_doings, r_kinds, r_firsts, r_seconds) e_length e_text (m_down, m_core, m_water, m_pricked, m_thinSpots, m_seconds, m_gone, m_splitAt, m_steam, m_degrees, m_brown) (i0_down, i0_core, i0_water, i0_pricked, i0_thinSpots, i0_seconds, i0_gone, i0_splitAt, i0_steam, i0_degrees, i0_brown) (i1_down, i1_core, i1_water, i1_pricked, i1_thinSpots, i1_seconds, i1_gone, i1_splitAt, i1_steam, i1_degrees, i1_brown) t_kept t_heats t_tests t_salts t_crumbsOf t_traced u_length u_text u_is u_doings u_doing u_row u_isKept u_heats u_orders u_tests u_salt u_crumbs u_traced d_seconds := by
  have hT := hI.2.2.2.2.2.2.1
  simp only [F_X4_trace] at h4
  simp only [F_X5_trace] at h5
  exact And.intro (by rw [h4, h5, hT]) hI
theorem s_count {t_kept : Nat → Int32} {t_heats : Nat → Int32} {t_salts : Nat → Int32} {t_crumbsOf : Nat → Int32} {t_tests : Nat} {t_traced : Int64} {r_radius : Int32} {r_skin : Int32} {r_filling : Int32} {r_water : Int32} {r_ends : Int32} {r_thin : Int32} {r_chance : Int32} {r_bentFace : Int32} {r_bentBy : Int32} {r_doings : Nat} {r_kinds : Nat → Int32} {r_firsts : Nat → Int32} {r_seconds : Nat → Int32} {d_seconds : Nat → Int32} {e_text : Nat → Int32} {e_length : Nat} {m_down : Int32} {m_degrees : Nat → Int32} {m_brown : Nat → Int32} {m_core : Int32} {m_water : Int32} {m_pricked : Int32} {m_thinSpots : Int32} {m_seconds : Int32} {m_gone : Int32} {m_splitAt : Int32} {m_steam : Int32} {i0_down : Int32} {i0_degrees : Nat → Int32} {i0_brown : Nat → Int32} {i0_core : Int32} {i0_water : Int32} {i0_pricked : Int32} {i0_thinSpots : Int32} {i0_seconds : Int32} {i0_gone : Int32} {i0_splitAt : Int32} {i0_steam : Int32} {i1_down : Int32} {i1_degrees : Nat → Int32} {i1_brown : Nat → Int32} {i1_core : Int32} {i1_water : Int32} {i1_pricked : Int32} {i1_thinSpots : Int32} {i1_seconds : Int32} {i1_gone : Int32} {i1_splitAt : Int32} {i1_steam : Int32} {u_length : Nat} {u_text : Nat → Int32} {u_is : Nat → Int32} {u_doings : Nat → Int32} {u_doing : Nat → Int32} {u_row : Nat → Int32} {u_isKept : Nat → Int32} {u_heats : Nat → Int32} {u_orders : Nat → Int32} {u_tests : Nat} {u_salt : Nat → Int32} {u_crumbs : Nat → Int32} {u_traced : Int64} {a1 : Int32} {z_500 z_503 : Int32} (hI : Inv (r_radius, r_skin, r_filling, r_water, r_ends, r_thin, r_chance, r_bentFace, r_bentBy, r_doings, r_kinds, r_firsts, r_seconds) e_length e_text (m_down, m_core, m_water, m_pricked, m_thinSpots, m_seconds, m_gone, m_splitAt, m_steam, m_degrees, m_brown) (i0_down, i0_core, i0_water, i0_pricked, i0_thinSpots, i0_seconds, i0_gone, i0_splitAt, i0_steam, i0_degrees, i0_brown) (i1_down, i1_core, i1_water, i1_pricked, i1_thinSpots, i1_seconds, i1_gone, i1_splitAt, i1_steam, i1_degrees, i1_brown) t_kept t_heats t_tests t_salts t_crumbsOf t_traced u_length u_text u_is u_doings u_doing u_row u_isKept u_heats u_orders u_tests u_salt u_crumbs u_traced d_seconds) (h4 : z_500 = F_X4_count t_tests r_doings e_length a1) (h5 : z_503 = F_X5_count u_length u_doings u_tests a1) : z_500 = z_503 ∧ Inv (r_radius, r_skin, r_filling, r_water, r_ends, r_thin, r_chance, r_bentFace, r_bentBy, r_doings, r_kinds, r_firsts, r_seconds) e_length e_text (m_down, m_core, m_water, m_pricked, m_thinSpots, m_seconds, m_gone, m_splitAt, m_steam, m_degrees, m_brown) (i0_down, i0_core, i0_water, i0_pricked, i0_thinSpots, i0_seconds, i0_gone, i0_splitAt, i0_steam, i0_degrees, i0_brown) (i1_down, i1_core, i1_water, i1_pricked, i1_thinSpots, i1_seconds, i1_gone, i1_splitAt, i1_steam, i1_degrees, i1_brown) t_kept t_heats t_tests t_salts t_crumbsOf t_traced u_length u_text u_is u_doings u_doing u_row u_isKept u_heats u_orders u_tests u_salt u_crumbs u_traced d_seconds := by
  have hN := hI.1.2.2.1
  have hL := hI.2.1.2.1
  have hT := hI.2.2.2.2.2.1.2.1
  simp only [F_X4_count] at h4
  simp only [F_X5_count, x_nm] at h5
  exact And.intro (by rw [h4, h5, hN, hL, hT]) hI
theorem s_tube {t_kept : Nat → Int32} {t_heats : Nat → Int32} {t_salts : Nat → Int32} {t_crumbsOf : Nat → Int32} {t_tests : Nat} {t_traced : Int64} {r_radius : Int32} {r_skin : Int32} {r_filling : Int32} {r_water : Int32} {r_ends : Int32} {r_thin : Int32} {r_chance : Int32} {r_bentFace : Int32} {r_bentBy : Int32} {r_doings : Nat} {r_kinds : Nat → Int32} {r_firsts : Nat → Int32} {r_seconds : Nat → Int32} {d_seconds : Nat → Int32} {e_text : Nat → Int32} {e_length : Nat} {m_down : Int32} {m_degrees : Nat → Int32} {m_brown : Nat → Int32} {m_core : Int32} {m_water : Int32} {m_pricked : Int32} {m_thinSpots : Int32} {m_seconds : Int32} {m_gone : Int32} {m_splitAt : Int32} {m_steam : Int32} {i0_down : Int32} {i0_degrees : Nat → Int32} {i0_brown : Nat → Int32} {i0_core : Int32} {i0_water : Int32} {i0_pricked : Int32} {i0_thinSpots : Int32} {i0_seconds : Int32} {i0_gone : Int32} {i0_splitAt : Int32} {i0_steam : Int32} {i1_down : Int32} {i1_degrees : Nat → Int32} {i1_brown : Nat → Int32} {i1_core : Int32} {i1_water : Int32} {i1_pricked : Int32} {i1_thinSpots : Int32} {i1_seconds : Int32} {i1_gone : Int32} {i1_splitAt : Int32} {i1_steam : Int32} {u_length : Nat} {u_text : Nat → Int32} {u_is : Nat → Int32} {u_doings : Nat → Int32} {u_doing : Nat → Int32} {u_row : Nat → Int32} {u_isKept : Nat → Int32} {u_heats : Nat → Int32} {u_orders : Nat → Int32} {u_tests : Nat} {u_salt : Nat → Int32} {u_crumbs : Nat → Int32} {u_traced : Int64} {a1 : Int32} {a2 : Int32} {a3 : Int32} {z_437 z_440 : Int32} (hI : Inv (r_radius, r_skin, r_filling, r_water, r_ends, r_thin, r_chance, r_bentFace, r_bentBy, r_doings, r_kinds, r_firsts, r_seconds) e_length e_text (m_down, m_core, m_water, m_pricked, m_thinSpots, m_seconds, m_gone, m_splitAt, m_steam, m_degrees, m_brown) (i0_down, i0_core, i0_water, i0_pricked, i0_thinSpots, i0_seconds, i0_gone, i0_splitAt, i0_steam, i0_degrees, i0_brown) (i1_down, i1_core, i1_water, i1_pricked, i1_thinSpots, i1_seconds, i1_gone, i1_splitAt, i1_steam, i1_degrees, i1_brown) t_kept t_heats t_tests t_salts t_crumbsOf t_traced u_length u_text u_is u_doings u_doing u_row u_isKept u_heats u_orders u_tests u_salt u_crumbs u_traced d_seconds) (h4 : z_437 = F_X4_tube a1 a2 a3) (h5 : z_440 = F_X5_tube a1 a2 a3) : z_437 = z_440 ∧ Inv (r_radius, r_skin, r_filling, r_water, r_ends, r_thin, r_chance, r_bentFace, r_bentBy, r_doings, r_kinds, r_firsts, r_seconds) e_length e_text (m_down, m_core, m_water, m_pricked, m_thinSpots, m_seconds, m_gone, m_splitAt, m_steam, m_degrees, m_brown) (i0_down, i0_core, i0_water, i0_pricked, i0_thinSpots, i0_seconds, i0_gone, i0_splitAt, i0_steam, i0_degrees, i0_brown) (i1_down, i1_core, i1_water, i1_pricked, i1_thinSpots, i1_seconds, i1_gone, i1_splitAt, i1_steam, i1_degrees, i1_brown) t_kept t_heats t_tests t_salts t_crumbsOf t_traced u_length u_text u_is u_doings u_doing u_row u_isKept u_heats u_orders u_tests u_salt u_crumbs u_traced d_seconds := by
  refine And.intro ?_ hI
  simp only [F_X4_tube, x_nm] at h4
  simp only [F_X5_tube, x_nm] at h5
  rw [h4, h5]
  by_cases c1 : F_X4_outside a1 1 99 = 0
  · rw [if_pos c1, if_neg (x_ioN 1 99 (by decide) (by decide) c1)]
    by_cases c2 : F_X4_outside a2 1 999 = 0
    · rw [if_pos c2, if_neg (x_ioN 1 999 (by decide) (by decide) c2)]
      by_cases c3 : F_X4_outside a3 0 1 = 0
      · rw [if_pos c3, if_neg (x_ioN 0 1 (by decide) (by decide) c3)]
      · rw [if_neg c3, if_pos (x_ioP 0 1 (by decide) (by decide) c3)]
    · rw [if_neg c2, if_pos (x_ioP 1 999 (by decide) (by decide) c2)]
  · rw [if_neg c1, if_pos (x_ioP 1 99 (by decide) (by decide) c1)]
theorem x_updS (f : Nat → Int32) (i : Nat) (x : Int32) : upd f i x i = x := by
  simp [upd]
theorem x_updN (f : Nat → Int32) {i k : Nat} (x : Int32) (h : k ≠ i) : upd f i x k = f k := by
  simp [upd, h]
theorem x_btw_nI {k lo hi : Nat} (h1 : lo ≤ k) (h2 : k ≤ hi) (h3 : hi < 2 ^ 31) : Btw (lo : Int) (nI k) (hi : Int) := by
  unfold Btw
  rw [nI_toInt (by omega)]
  omega
theorem s_heat {t_kept : Nat → Int32} {t_heats : Nat → Int32} {t_salts : Nat → Int32} {t_crumbsOf : Nat → Int32} {t_tests : Nat} {t_traced : Int64} {r_radius : Int32} {r_skin : Int32} {r_filling : Int32} {r_water : Int32} {r_ends : Int32} {r_thin : Int32} {r_chance : Int32} {r_bentFace : Int32} {r_bentBy : Int32} {r_doings : Nat} {r_kinds : Nat → Int32} {r_firsts : Nat → Int32} {r_seconds : Nat → Int32} {d_seconds : Nat → Int32} {e_text : Nat → Int32} {e_length : Nat} {m_down : Int32} {m_degrees : Nat → Int32} {m_brown : Nat → Int32} {m_core : Int32} {m_water : Int32} {m_pricked : Int32} {m_thinSpots : Int32} {m_seconds : Int32} {m_gone : Int32} {m_splitAt : Int32} {m_steam : Int32} {i0_down : Int32} {i0_degrees : Nat → Int32} {i0_brown : Nat → Int32} {i0_core : Int32} {i0_water : Int32} {i0_pricked : Int32} {i0_thinSpots : Int32} {i0_seconds : Int32} {i0_gone : Int32} {i0_splitAt : Int32} {i0_steam : Int32} {i1_down : Int32} {i1_degrees : Nat → Int32} {i1_brown : Nat → Int32} {i1_core : Int32} {i1_water : Int32} {i1_pricked : Int32} {i1_thinSpots : Int32} {i1_seconds : Int32} {i1_gone : Int32} {i1_splitAt : Int32} {i1_steam : Int32} {u_length : Nat} {u_text : Nat → Int32} {u_is : Nat → Int32} {u_doings : Nat → Int32} {u_doing : Nat → Int32} {u_row : Nat → Int32} {u_isKept : Nat → Int32} {u_heats : Nat → Int32} {u_orders : Nat → Int32} {u_tests : Nat} {u_salt : Nat → Int32} {u_crumbs : Nat → Int32} {u_traced : Int64} {a1 : Int32} {a2 : Int32} {t_heats_310 : Nat → Int32} {u_heats_314 : Nat → Int32} {z_311 z_315 : Int32} (hI : Inv (r_radius, r_skin, r_filling, r_water, r_ends, r_thin, r_chance, r_bentFace, r_bentBy, r_doings, r_kinds, r_firsts, r_seconds) e_length e_text (m_down, m_core, m_water, m_pricked, m_thinSpots, m_seconds, m_gone, m_splitAt, m_steam, m_degrees, m_brown) (i0_down, i0_core, i0_water, i0_pricked, i0_thinSpots, i0_seconds, i0_gone, i0_splitAt, i0_steam, i0_degrees, i0_brown) (i1_down, i1_core, i1_water, i1_pricked, i1_thinSpots, i1_seconds, i1_gone, i1_splitAt, i1_steam, i1_degrees, i1_brown) t_kept t_heats t_tests t_salts t_crumbsOf t_traced u_length u_text u_is u_doings u_doing u_row u_isKept u_heats u_orders u_tests u_salt u_crumbs u_traced d_seconds) (h4 : (z_311, t_heats_310) = F_X4_heat t_heats a1 a2) (h5 : (z_315, u_heats_314) = F_X5_heat u_heats a1 a2) : z_311 = z_315 ∧ Inv (r_radius, r_skin, r_filling, r_water, r_ends, r_thin, r_chance, r_bentFace, r_bentBy, r_doings, r_kinds, r_firsts, r_seconds) e_length e_text (m_down, m_core, m_water, m_pricked, m_thinSpots, m_seconds, m_gone, m_splitAt, m_steam, m_degrees, m_brown) (i0_down, i0_core, i0_water, i0_pricked, i0_thinSpots, i0_seconds, i0_gone, i0_splitAt, i0_steam, i0_degrees, i0_brown) (i1_down, i1_core, i1_water, i1_pricked, i1_thinSpots, i1_seconds, i1_gone, i1_splitAt, i1_steam, i1_degrees, i1_brown) t_kept t_heats_310 t_tests t_salts t_crumbsOf t_traced u_length u_text u_is u_doings u_doing u_row u_isKept u_heats_314 u_orders u_tests u_salt u_crumbs u_traced d_seconds := by
  obtain ⟨hA, hB, hC, hD, hE, hF⟩ := hI
  simp only [F_X4_heat, x_nm] at h4
  simp only [F_X5_heat, x_nm] at h5
  by_cases c1 : F_X4_outside a1 0 3 = 0
  · rw [if_pos c1] at h4
    rw [if_neg (x_ioN 0 3 (by decide) (by decide) c1)] at h5
    have d1 := x_outs (lo := 0) (hi := 3) (by decide) (by decide) c1
    by_cases c2 : F_X4_outside a2 0 99 = 0
    · rw [if_pos c2] at h4
      rw [if_neg (x_ioN 0 99 (by decide) (by decide) c2)] at h5
      have d2 := x_outs (lo := 0) (hi := 99) (by decide) (by decide) c2
      simp only [Prod.mk.injEq] at h4 h5
      obtain ⟨rfl, rfl⟩ := h4
      obtain ⟨rfl, rfl⟩ := h5
      refine And.intro (hE _ (by omega)).1 (And.intro hA (And.intro hB (And.intro hC (And.intro hD (And.intro ?_ hF)))))
      intro q hq
      by_cases e : q = a1.toNatClampNeg
      · subst e
        rw [x_updS, x_updS]
        exact ⟨rfl, x_btw_nI (lo := 0) (hi := 99) (by omega) (by omega) (by decide)⟩
      · rw [x_updN _ _ e, x_updN _ _ e]
        exact hE q hq
    · rw [if_neg c2] at h4
      rw [if_pos (x_ioP 0 99 (by decide) (by decide) c2)] at h5
      simp only [Prod.mk.injEq] at h4 h5
      obtain ⟨rfl, rfl⟩ := h4
      obtain ⟨rfl, rfl⟩ := h5
      exact And.intro rfl (And.intro hA (And.intro hB (And.intro hC (And.intro hD (And.intro hE hF)))))
  · rw [if_neg c1] at h4
    rw [if_pos (x_ioP 0 3 (by decide) (by decide) c1)] at h5
    simp only [Prod.mk.injEq] at h4 h5
    obtain ⟨rfl, rfl⟩ := h4
    obtain ⟨rfl, rfl⟩ := h5
    exact And.intro rfl (And.intro hA (And.intro hB (And.intro hC (And.intro hD (And.intro hE hF)))))
theorem s_doing {t_kept : Nat → Int32} {t_heats : Nat → Int32} {t_salts : Nat → Int32} {t_crumbsOf : Nat → Int32} {t_tests : Nat} {t_traced : Int64} {r_radius : Int32} {r_skin : Int32} {r_filling : Int32} {r_water : Int32} {r_ends : Int32} {r_thin : Int32} {r_chance : Int32} {r_bentFace : Int32} {r_bentBy : Int32} {r_doings : Nat} {r_kinds : Nat → Int32} {r_firsts : Nat → Int32} {r_seconds : Nat → Int32} {d_seconds : Nat → Int32} {e_text : Nat → Int32} {e_length : Nat} {m_down : Int32} {m_degrees : Nat → Int32} {m_brown : Nat → Int32} {m_core : Int32} {m_water : Int32} {m_pricked : Int32} {m_thinSpots : Int32} {m_seconds : Int32} {m_gone : Int32} {m_splitAt : Int32} {m_steam : Int32} {i0_down : Int32} {i0_degrees : Nat → Int32} {i0_brown : Nat → Int32} {i0_core : Int32} {i0_water : Int32} {i0_pricked : Int32} {i0_thinSpots : Int32} {i0_seconds : Int32} {i0_gone : Int32} {i0_splitAt : Int32} {i0_steam : Int32} {i1_down : Int32} {i1_degrees : Nat → Int32} {i1_brown : Nat → Int32} {i1_core : Int32} {i1_water : Int32} {i1_pricked : Int32} {i1_thinSpots : Int32} {i1_seconds : Int32} {i1_gone : Int32} {i1_splitAt : Int32} {i1_steam : Int32} {u_length : Nat} {u_text : Nat → Int32} {u_is : Nat → Int32} {u_doings : Nat → Int32} {u_doing : Nat → Int32} {u_row : Nat → Int32} {u_isKept : Nat → Int32} {u_heats : Nat → Int32} {u_orders : Nat → Int32} {u_tests : Nat} {u_salt : Nat → Int32} {u_crumbs : Nat → Int32} {u_traced : Int64} {a1 : Int32} {a2 : Int32} {z_89 z_92 : Int32} (hI : Inv (r_radius, r_skin, r_filling, r_water, r_ends, r_thin, r_chance, r_bentFace, r_bentBy, r_doings, r_kinds, r_firsts, r_seconds) e_length e_text (m_down, m_core, m_water, m_pricked, m_thinSpots, m_seconds, m_gone, m_splitAt, m_steam, m_degrees, m_brown) (i0_down, i0_core, i0_water, i0_pricked, i0_thinSpots, i0_seconds, i0_gone, i0_splitAt, i0_steam, i0_degrees, i0_brown) (i1_down, i1_core, i1_water, i1_pricked, i1_thinSpots, i1_seconds, i1_gone, i1_splitAt, i1_steam, i1_degrees, i1_brown) t_kept t_heats t_tests t_salts t_crumbsOf t_traced u_length u_text u_is u_doings u_doing u_row u_isKept u_heats u_orders u_tests u_salt u_crumbs u_traced d_seconds) (h4 : z_89 = F_X4_doing r_doings r_kinds r_firsts r_seconds a1 a2) (h5 : z_92 = F_X5_doing u_doings u_doing a1 a2) : z_89 = z_92 ∧ Inv (r_radius, r_skin, r_filling, r_water, r_ends, r_thin, r_chance, r_bentFace, r_bentBy, r_doings, r_kinds, r_firsts, r_seconds) e_length e_text (m_down, m_core, m_water, m_pricked, m_thinSpots, m_seconds, m_gone, m_splitAt, m_steam, m_degrees, m_brown) (i0_down, i0_core, i0_water, i0_pricked, i0_thinSpots, i0_seconds, i0_gone, i0_splitAt, i0_steam, i0_degrees, i0_brown) (i1_down, i1_core, i1_water, i1_pricked, i1_thinSpots, i1_seconds, i1_gone, i1_splitAt, i1_steam, i1_degrees, i1_brown) t_kept t_heats t_tests t_salts t_crumbsOf t_traced u_length u_text u_is u_doings u_doing u_row u_isKept u_heats u_orders u_tests u_salt u_crumbs u_traced d_seconds := by
  refine And.intro ?_ hI
  obtain ⟨⟨⟨-, hn, -⟩, -, hN, hK⟩, -⟩ := hI
  simp only [F_X4_doing, x_nm] at h4
  simp only [F_X5_doing, x_nm] at h5
  rw [hN, nI_clamp (by omega)] at h5
  rw [h4, h5]
  by_cases c1 : F_X4_outside a1 0 (nI r_doings - 1) = 0
  · rw [if_pos c1, if_neg (x_ioN 0 (nI r_doings - 1) (by decide) rfl c1)]
    have d1 := x_outsM (by omega) c1
    obtain ⟨k1, k2, k3⟩ := hK _ (by omega : a1.toNatClampNeg < r_doings)
    by_cases c2 : F_X4_outside a2 0 2 = 0
    · rw [if_neg (x_ioN 0 2 (by decide) (by decide) c2)]
      have d2 := x_outs (lo := 0) (hi := 2) (by decide) (by decide) c2
      generalize a2.toNatClampNeg = t at d2 ⊢
      obtain ⟨d2, d3, rfl⟩ := d2
      have e : t = 0 ∨ t = 1 ∨ t = 2 := by omega
      rcases e with rfl | rfl | rfl
      · exact k1.symm
      · exact k2.symm
      · exact k3.symm
    · rw [if_pos (x_ioP 0 2 (by decide) (by decide) c2)]
      rw [if_neg, if_neg, if_neg]
      · intro e
        subst e
        exact c2 (by decide)
      · intro e
        subst e
        exact c2 (by decide)
      · intro e
        subst e
        exact c2 (by decide)
  · rw [if_neg c1, if_pos (x_ioP 0 (nI r_doings - 1) (by decide) rfl c1)]
