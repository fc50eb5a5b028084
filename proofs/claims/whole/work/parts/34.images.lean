/-! the steps of the law: the images, a new moment, the tests -/
theorem x_copies_L {a1 a2 : Nat} (ha : a1 ≠ a2) : ∀ (n k : Nat) (row : Nat → Int32), k ≤ 20 → 20 - k < n → ∀ q : Nat, F_X5_copies_L2 a1 a2 n k row q = if 20 * a2 + k ≤ q ∧ q < 20 * a2 + 20 then row (20 * a1 + (q - 20 * a2)) else row q := by
  intro n
  induction n with
  | zero => intro k row _ h; exact absurd h (Nat.not_lt_zero _)
  | succ n ih =>
    intro k row h1 h2 q
    rw [F_X5_copies_L2]
    by_cases c : 20 ≤ k
    · rw [if_pos c, if_neg (by omega)]
    · rw [if_neg c, x_nmE, ih (k + 1) _ (by omega) (by omega) q]
      by_cases c1 : 20 * a2 + (k + 1) ≤ q ∧ q < 20 * a2 + 20
      · rw [if_pos c1, if_pos (by omega), x_updN _ _ (by omega)]
      · rw [if_neg c1]
        by_cases c2 : q = 20 * a2 + k
        · subst c2
          rw [x_updS, if_pos (by omega), show 20 * a2 + k - 20 * a2 = k by omega]
        · rw [x_updN _ _ c2, if_neg (by omega)]
theorem x_copies {a1 a2 : Nat} (ha : a1 ≠ a2) (row : Nat → Int32) (q : Nat) : F_X5_copies row a1 a2 q = if 20 * a2 ≤ q ∧ q < 20 * a2 + 20 then row (20 * a1 + (q - 20 * a2)) else row q := by
  have h := x_copies_L ha (20 + 1) 0 row (by omega) (by omega) q
  rw [Nat.add_zero] at h
  rw [F_X5_copies, x_nmE]
  exact h
theorem x_mom_copy {mo : TMom} {row row' : Nat → Int32} {r r' : Nat} (h : RelMom mo row r) (hr : ∀ k : Nat, k < 20 → row' (20 * r' + k) = row (20 * r + k)) : RelMom mo row' r' := by
  obtain ⟨d, c, w, pr, th, se, go, sp, st, de, br⟩ := mo
  obtain ⟨h0, h1, h2, h3, h4, h5, h6, h7, h8, h9, h10⟩ := h
  refine And.intro h0 (And.intro (fun f hf => ?_) (And.intro ?_ (And.intro ?_ (And.intro ?_ (And.intro ?_ (And.intro ?_ (And.intro ?_ (And.intro ?_ (And.intro ?_ ?_)))))))))
  · have e := h1 f hf
    rw [Nat.add_assoc] at e
    rw [Nat.add_assoc, hr _ (by omega), hr _ (by omega)]
    exact e
  all_goals (rw [hr _ (by omega)]; assumption)
theorem x_take_mom {down core water pricked thin seconds gone splitAt steam : Int32} {degrees brown dg br row : Nat → Int32} {r : Nat} (h : RelMom (down, core, water, pricked, thin, seconds, gone, splitAt, steam, degrees, brown) row r) : RelMom (F_X1_take dg br down degrees brown core water pricked thin seconds gone splitAt steam) row r := by
  unfold F_X1_take x_nm
  have e : ∀ f : Nat, f < 4 → (F_X1_take_L10 degrees brown (4 + 1) 0 dg br).1 f = degrees f ∧ (F_X1_take_L10 degrees brown (4 + 1) 0 dg br).2 f = brown f := by
    intro f hf
    have e : f = 0 ∨ f = 1 ∨ f = 2 ∨ f = 3 := by omega
    rcases e with rfl | rfl | rfl | rfl <;> exact ⟨rfl, rfl⟩
  obtain ⟨⟨k0, k1, k2, k3, k4, k5, k6, k7, k8⟩, h1, h2⟩ := h
  refine And.intro (And.intro k0 (And.intro k1 (And.intro k2 (And.intro k3 (And.intro k4 (And.intro k5 (And.intro k6 (And.intro k7 (fun f hf => ?_))))))))) (And.intro (fun f hf => ?_) h2)
  · have e1 := (e f hf).1
    have e2 := (e f hf).2
    have k := k8 f hf
    rw [← e1, ← e2] at k
    exact k
  · have e1 := (e f hf).1
    have e2 := (e f hf).2
    have k := h1 f hf
    rw [← e1, ← e2] at k
    exact k
theorem x_isIm {a : Int32} : F_X5_isImage a = F_X5_in a.toInt64 0 1 := rfl
theorem s_keep {t_kept : Nat → Int32} {t_heats : Nat → Int32} {t_salts : Nat → Int32} {t_crumbsOf : Nat → Int32} {t_tests : Nat} {t_traced : Int64} {r_radius : Int32} {r_skin : Int32} {r_filling : Int32} {r_water : Int32} {r_ends : Int32} {r_thin : Int32} {r_chance : Int32} {r_bentFace : Int32} {r_bentBy : Int32} {r_doings : Nat} {r_kinds : Nat → Int32} {r_firsts : Nat → Int32} {r_seconds : Nat → Int32} {d_seconds : Nat → Int32} {e_text : Nat → Int32} {e_length : Nat} {m_down : Int32} {m_degrees : Nat → Int32} {m_brown : Nat → Int32} {m_core : Int32} {m_water : Int32} {m_pricked : Int32} {m_thinSpots : Int32} {m_seconds : Int32} {m_gone : Int32} {m_splitAt : Int32} {m_steam : Int32} {i0_down : Int32} {i0_degrees : Nat → Int32} {i0_brown : Nat → Int32} {i0_core : Int32} {i0_water : Int32} {i0_pricked : Int32} {i0_thinSpots : Int32} {i0_seconds : Int32} {i0_gone : Int32} {i0_splitAt : Int32} {i0_steam : Int32} {i1_down : Int32} {i1_degrees : Nat → Int32} {i1_brown : Nat → Int32} {i1_core : Int32} {i1_water : Int32} {i1_pricked : Int32} {i1_thinSpots : Int32} {i1_seconds : Int32} {i1_gone : Int32} {i1_splitAt : Int32} {i1_steam : Int32} {u_length : Nat} {u_text : Nat → Int32} {u_is : Nat → Int32} {u_doings : Nat → Int32} {u_doing : Nat → Int32} {u_row : Nat → Int32} {u_isKept : Nat → Int32} {u_heats : Nat → Int32} {u_orders : Nat → Int32} {u_tests : Nat} {u_salt : Nat → Int32} {u_crumbs : Nat → Int32} {u_traced : Int64} {a1 : Int32} {t_kept_451 : Nat → Int32} {i0_down_452 : Int32} {i0_core_453 : Int32} {i0_water_454 : Int32} {i0_pricked_455 : Int32} {i0_thinSpots_456 : Int32} {i0_seconds_457 : Int32} {i0_gone_458 : Int32} {i0_splitAt_459 : Int32} {i0_steam_460 : Int32} {i0_degrees_461 : Nat → Int32} {i0_brown_462 : Nat → Int32} {i1_down_463 : Int32} {i1_core_464 : Int32} {i1_water_465 : Int32} {i1_pricked_466 : Int32} {i1_thinSpots_467 : Int32} {i1_seconds_468 : Int32} {i1_gone_469 : Int32} {i1_splitAt_470 : Int32} {i1_steam_471 : Int32} {i1_degrees_472 : Nat → Int32} {i1_brown_473 : Nat → Int32} {u_row_477 : Nat → Int32} {u_isKept_478 : Nat → Int32} {z_474 z_479 : Int32} (hI : Inv (r_radius, r_skin, r_filling, r_water, r_ends, r_thin, r_chance, r_bentFace, r_bentBy, r_doings, r_kinds, r_firsts, r_seconds) e_length e_text (m_down, m_core, m_water, m_pricked, m_thinSpots, m_seconds, m_gone, m_splitAt, m_steam, m_degrees, m_brown) (i0_down, i0_core, i0_water, i0_pricked, i0_thinSpots, i0_seconds, i0_gone, i0_splitAt, i0_steam, i0_degrees, i0_brown) (i1_down, i1_core, i1_water, i1_pricked, i1_thinSpots, i1_seconds, i1_gone, i1_splitAt, i1_steam, i1_degrees, i1_brown) t_kept t_heats t_tests t_salts t_crumbsOf t_traced u_length u_text u_is u_doings u_doing u_row u_isKept u_heats u_orders u_tests u_salt u_crumbs u_traced d_seconds) (h4 : (z_474, t_kept_451, i0_down_452, i0_core_453, i0_water_454, i0_pricked_455, i0_thinSpots_456, i0_seconds_457, i0_gone_458, i0_splitAt_459, i0_steam_460, i0_degrees_461, i0_brown_462, i1_down_463, i1_core_464, i1_water_465, i1_pricked_466, i1_thinSpots_467, i1_seconds_468, i1_gone_469, i1_splitAt_470, i1_steam_471, i1_degrees_472, i1_brown_473) = F_X4_keep t_kept m_down m_degrees m_brown m_core m_water m_pricked m_thinSpots m_seconds m_gone m_splitAt m_steam i0_down i0_degrees i0_brown i0_core i0_water i0_pricked i0_thinSpots i0_seconds i0_gone i0_splitAt i0_steam i1_down i1_degrees i1_brown i1_core i1_water i1_pricked i1_thinSpots i1_seconds i1_gone i1_splitAt i1_steam a1) (h5 : (z_479, u_row_477, u_isKept_478) = F_X5_keep u_row u_isKept a1) : z_474 = z_479 ∧ Inv (r_radius, r_skin, r_filling, r_water, r_ends, r_thin, r_chance, r_bentFace, r_bentBy, r_doings, r_kinds, r_firsts, r_seconds) e_length e_text (m_down, m_core, m_water, m_pricked, m_thinSpots, m_seconds, m_gone, m_splitAt, m_steam, m_degrees, m_brown) (i0_down_452, i0_core_453, i0_water_454, i0_pricked_455, i0_thinSpots_456, i0_seconds_457, i0_gone_458, i0_splitAt_459, i0_steam_460, i0_degrees_461, i0_brown_462) (i1_down_463, i1_core_464, i1_water_465, i1_pricked_466, i1_thinSpots_467, i1_seconds_468, i1_gone_469, i1_splitAt_470, i1_steam_471, i1_degrees_472, i1_brown_473) t_kept_451 t_heats t_tests t_salts t_crumbsOf t_traced u_length u_text u_is u_doings u_doing u_row_477 u_isKept_478 u_heats u_orders u_tests u_salt u_crumbs u_traced d_seconds := by
  obtain ⟨hA, hB, hC, ⟨⟨d1, d2, d3⟩, ⟨d4, d5, d6⟩⟩, hE⟩ := hI
  simp only [F_X4_keep, x_nm] at h4
  rw [F_X5_keep, x_nmE, x_isIm] at h5
  simp only [x_nm] at h5
  by_cases c1 : F_X4_outside a1 0 1 = 0
  · rw [if_pos c1] at h4
    rw [if_neg (x_ioN 0 1 (by decide) (by decide) c1)] at h5
    have e1 := x_outs (lo := 0) (hi := 1) (by decide) (by decide) c1
    generalize a1.toNatClampNeg = t at *
    have e : t = 0 ∨ t = 1 := by omega
    have hs := (x_mom0 hC).2.2.2.2.2.1
    have hC' : ∀ t2 : Nat, 1 ≤ t2 → RelMom (m_down, m_core, m_water, m_pricked, m_thinSpots, m_seconds, m_gone, m_splitAt, m_steam, m_degrees, m_brown) (F_X5_copies u_row 0 t2) 0 := fun t2 ht => x_mom_row hC (fun q h1 h2 => by rw [x_copies (by omega), if_neg (by omega)])
    have hC2 : ∀ t2 : Nat, 1 ≤ t2 → RelMom (m_down, m_core, m_water, m_pricked, m_thinSpots, m_seconds, m_gone, m_splitAt, m_steam, m_degrees, m_brown) (F_X5_copies u_row 0 t2) t2 := fun t2 ht => x_mom_copy hC (fun k hk => by rw [x_copies (by omega), if_pos (by omega), show 20 * t2 + k - 20 * t2 = k by omega])
    rcases e with rfl | rfl
    · rw [if_pos rfl] at h4
      have hT := x_take_mom (dg := i0_degrees) (br := i0_brown) (hC2 1 (by omega))
      have hK : F_X5_copies u_row 0 (0 + 1) 12 = m_seconds := by rw [x_copies (by omega), if_neg (by omega)]; exact hs
      rw [hK] at h5
      generalize F_X1_take i0_degrees i0_brown m_down m_degrees m_brown m_core m_water m_pricked m_thinSpots m_seconds m_gone m_splitAt m_steam = T at hT h4
      obtain ⟨t0, t1, t2, t3, t4, t5, t6, t7, t8, t9, t10⟩ := T
      simp only [Prod.mk.injEq] at h4 h5
      obtain ⟨rfl, rfl, rfl, rfl, rfl, rfl, rfl, rfl, rfl, rfl, rfl, rfl, rfl, rfl, rfl, rfl, rfl, rfl, rfl, rfl, rfl, rfl, rfl, rfl⟩ := h4
      obtain ⟨rfl, rfl, rfl⟩ := h5
      refine And.intro rfl (And.intro hA (And.intro hB (And.intro (hC' 1 (by omega)) (And.intro (And.intro (And.intro ?_ (And.intro (Or.inr (x_updS _ _ _)) (fun _ => hT))) (And.intro ?_ (And.intro ?_ (fun z => ?_)))) hE))))
      · rw [x_updS, x_updS]
      · rw [x_updN _ _ (by omega), x_updN _ _ (by omega)]; exact d4
      · rw [x_updN _ _ (by omega)]; exact d5
      · rw [x_updN _ _ (by omega)] at z
        exact x_mom_row (d6 z) (fun q h1 h2 => by rw [x_copies (by omega), if_neg (by omega)])
    · rw [if_neg (by omega)] at h4
      have hT := x_take_mom (dg := i1_degrees) (br := i1_brown) (hC2 2 (by omega))
      have hK : F_X5_copies u_row 0 (1 + 1) 12 = m_seconds := by rw [x_copies (by omega), if_neg (by omega)]; exact hs
      rw [hK] at h5
      generalize F_X1_take i1_degrees i1_brown m_down m_degrees m_brown m_core m_water m_pricked m_thinSpots m_seconds m_gone m_splitAt m_steam = T at hT h4
      obtain ⟨t0, t1, t2, t3, t4, t5, t6, t7, t8, t9, t10⟩ := T
      simp only [Prod.mk.injEq] at h4 h5
      obtain ⟨rfl, rfl, rfl, rfl, rfl, rfl, rfl, rfl, rfl, rfl, rfl, rfl, rfl, rfl, rfl, rfl, rfl, rfl, rfl, rfl, rfl, rfl, rfl, rfl⟩ := h4
      obtain ⟨rfl, rfl, rfl⟩ := h5
      refine And.intro rfl (And.intro hA (And.intro hB (And.intro (hC' 2 (by omega)) (And.intro (And.intro (And.intro ?_ (And.intro ?_ (fun z => ?_))) (And.intro ?_ (And.intro (Or.inr (x_updS _ _ _)) (fun _ => hT)))) hE))))
      · rw [x_updN _ _ (by omega), x_updN _ _ (by omega)]; exact d1
      · rw [x_updN _ _ (by omega)]; exact d2
      · rw [x_updN _ _ (by omega)] at z
        exact x_mom_row (d3 z) (fun q h1 h2 => by rw [x_copies (by omega), if_neg (by omega)])
      · rw [x_updS, x_updS]
  · rw [if_neg c1] at h4
    rw [if_pos (x_ioP 0 1 (by decide) (by decide) c1)] at h5
    simp only [Prod.mk.injEq] at h4 h5
    obtain ⟨rfl, rfl, rfl, rfl, rfl, rfl, rfl, rfl, rfl, rfl, rfl, rfl, rfl, rfl, rfl, rfl, rfl, rfl, rfl, rfl, rfl, rfl, rfl, rfl⟩ := h4
    obtain ⟨rfl, rfl, rfl⟩ := h5
    exact And.intro rfl (And.intro hA (And.intro hB (And.intro hC (And.intro ⟨⟨d1, d2, d3⟩, ⟨d4, d5, d6⟩⟩ hE))))
theorem s_back {t_kept : Nat → Int32} {t_heats : Nat → Int32} {t_salts : Nat → Int32} {t_crumbsOf : Nat → Int32} {t_tests : Nat} {t_traced : Int64} {r_radius : Int32} {r_skin : Int32} {r_filling : Int32} {r_water : Int32} {r_ends : Int32} {r_thin : Int32} {r_chance : Int32} {r_bentFace : Int32} {r_bentBy : Int32} {r_doings : Nat} {r_kinds : Nat → Int32} {r_firsts : Nat → Int32} {r_seconds : Nat → Int32} {d_seconds : Nat → Int32} {e_text : Nat → Int32} {e_length : Nat} {m_down : Int32} {m_degrees : Nat → Int32} {m_brown : Nat → Int32} {m_core : Int32} {m_water : Int32} {m_pricked : Int32} {m_thinSpots : Int32} {m_seconds : Int32} {m_gone : Int32} {m_splitAt : Int32} {m_steam : Int32} {i0_down : Int32} {i0_degrees : Nat → Int32} {i0_brown : Nat → Int32} {i0_core : Int32} {i0_water : Int32} {i0_pricked : Int32} {i0_thinSpots : Int32} {i0_seconds : Int32} {i0_gone : Int32} {i0_splitAt : Int32} {i0_steam : Int32} {i1_down : Int32} {i1_degrees : Nat → Int32} {i1_brown : Nat → Int32} {i1_core : Int32} {i1_water : Int32} {i1_pricked : Int32} {i1_thinSpots : Int32} {i1_seconds : Int32} {i1_gone : Int32} {i1_splitAt : Int32} {i1_steam : Int32} {u_length : Nat} {u_text : Nat → Int32} {u_is : Nat → Int32} {u_doings : Nat → Int32} {u_doing : Nat → Int32} {u_row : Nat → Int32} {u_isKept : Nat → Int32} {u_heats : Nat → Int32} {u_orders : Nat → Int32} {u_tests : Nat} {u_salt : Nat → Int32} {u_crumbs : Nat → Int32} {u_traced : Int64} {a1 : Int32} {m_down_482 : Int32} {m_core_483 : Int32} {m_water_484 : Int32} {m_pricked_485 : Int32} {m_thinSpots_486 : Int32} {m_seconds_487 : Int32} {m_gone_488 : Int32} {m_splitAt_489 : Int32} {m_steam_490 : Int32} {m_degrees_491 : Nat → Int32} {m_brown_492 : Nat → Int32} {u_row_496 : Nat → Int32} {z_493 z_497 : Int32} (hI : Inv (r_radius, r_skin, r_filling, r_water, r_ends, r_thin, r_chance, r_bentFace, r_bentBy, r_doings, r_kinds, r_firsts, r_seconds) e_length e_text (m_down, m_core, m_water, m_pricked, m_thinSpots, m_seconds, m_gone, m_splitAt, m_steam, m_degrees, m_brown) (i0_down, i0_core, i0_water, i0_pricked, i0_thinSpots, i0_seconds, i0_gone, i0_splitAt, i0_steam, i0_degrees, i0_brown) (i1_down, i1_core, i1_water, i1_pricked, i1_thinSpots, i1_seconds, i1_gone, i1_splitAt, i1_steam, i1_degrees, i1_brown) t_kept t_heats t_tests t_salts t_crumbsOf t_traced u_length u_text u_is u_doings u_doing u_row u_isKept u_heats u_orders u_tests u_salt u_crumbs u_traced d_seconds) (h4 : (z_493, m_down_482, m_core_483, m_water_484, m_pricked_485, m_thinSpots_486, m_seconds_487, m_gone_488, m_splitAt_489, m_steam_490, m_degrees_491, m_brown_492) = F_X4_back t_kept m_down m_degrees m_brown m_core m_water m_pricked m_thinSpots m_seconds m_gone m_splitAt m_steam i0_down i0_degrees i0_brown i0_core i0_water i0_pricked i0_thinSpots i0_seconds i0_gone i0_splitAt i0_steam i1_down i1_degrees i1_brown i1_core i1_water i1_pricked i1_thinSpots i1_seconds i1_gone i1_splitAt i1_steam a1) (h5 : (z_497, u_row_496) = F_X5_back u_row u_isKept a1) : z_493 = z_497 ∧ Inv (r_radius, r_skin, r_filling, r_water, r_ends, r_thin, r_chance, r_bentFace, r_bentBy, r_doings, r_kinds, r_firsts, r_seconds) e_length e_text (m_down_482, m_core_483, m_water_484, m_pricked_485, m_thinSpots_486, m_seconds_487, m_gone_488, m_splitAt_489, m_steam_490, m_degrees_491, m_brown_492) (i0_down, i0_core, i0_water, i0_pricked, i0_thinSpots, i0_seconds, i0_gone, i0_splitAt, i0_steam, i0_degrees, i0_brown) (i1_down, i1_core, i1_water, i1_pricked, i1_thinSpots, i1_seconds, i1_gone, i1_splitAt, i1_steam, i1_degrees, i1_brown) t_kept t_heats t_tests t_salts t_crumbsOf t_traced u_length u_text u_is u_doings u_doing u_row_496 u_isKept u_heats u_orders u_tests u_salt u_crumbs u_traced d_seconds := by
  obtain ⟨hA, hB, hC, ⟨⟨d1, d2, d3⟩, ⟨d4, d5, d6⟩⟩, hE⟩ := hI
  simp only [F_X4_back, x_nm] at h4
  rw [F_X5_back, x_nmE, x_isIm] at h5
  simp only [x_nm] at h5
  by_cases c1 : F_X4_outside a1 0 1 = 0
  · rw [if_pos c1] at h4
    rw [if_neg (x_ioN 0 1 (by decide) (by decide) c1)] at h5
    have e1 := x_outs (lo := 0) (hi := 1) (by decide) (by decide) c1
    generalize a1.toNatClampNeg = t at *
    have e : t = 0 ∨ t = 1 := by omega
    rcases e with rfl | rfl
    · by_cases c2 : t_kept 0 = 0
      · rw [if_pos c2] at h4
        rw [if_pos (d1 ▸ c2)] at h5
        simp only [Prod.mk.injEq] at h4 h5
        obtain ⟨rfl, rfl, rfl, rfl, rfl, rfl, rfl, rfl, rfl, rfl, rfl, rfl⟩ := h4
        obtain ⟨rfl, rfl⟩ := h5
        exact And.intro rfl (And.intro hA (And.intro hB (And.intro hC (And.intro ⟨⟨d1, d2, d3⟩, ⟨d4, d5, d6⟩⟩ hE))))
      · rw [if_neg c2, if_pos rfl] at h4
        rw [if_neg (fun z => c2 (d1.trans z))] at h5
        have g1 := d3 (d2.resolve_left c2)
        have g2 := x_take_mom (dg := m_degrees) (br := m_brown) (x_mom_copy (row' := F_X5_copies u_row (0 + 1) 0) (r' := 0) g1 (fun k hk => by rw [x_copies (by omega), if_pos (by omega)]; congr 1; omega))
        generalize F_X1_take m_degrees m_brown i0_down i0_degrees i0_brown i0_core i0_water i0_pricked i0_thinSpots i0_seconds i0_gone i0_splitAt i0_steam = T at g2 h4
        obtain ⟨t0, t1, t2, t3, t4, t5, t6, t7, t8, t9, t10⟩ := T
        have hs := (x_mom0 g2).2.2.2.2.2.1
        rw [hs] at h5
        simp only [Prod.mk.injEq] at h4 h5
        obtain ⟨rfl, rfl, rfl, rfl, rfl, rfl, rfl, rfl, rfl, rfl, rfl, rfl⟩ := h4
        obtain ⟨rfl, rfl⟩ := h5
        exact And.intro rfl (And.intro hA (And.intro hB (And.intro g2 (And.intro (x_kept_row ⟨⟨d1, d2, d3⟩, ⟨d4, d5, d6⟩⟩ (fun q hq => by rw [x_copies (by omega), if_neg (by omega)])) hE))))
    · by_cases c2 : t_kept 1 = 0
      · rw [if_pos c2] at h4
        rw [if_pos (d4 ▸ c2)] at h5
        simp only [Prod.mk.injEq] at h4 h5
        obtain ⟨rfl, rfl, rfl, rfl, rfl, rfl, rfl, rfl, rfl, rfl, rfl, rfl⟩ := h4
        obtain ⟨rfl, rfl⟩ := h5
        exact And.intro rfl (And.intro hA (And.intro hB (And.intro hC (And.intro ⟨⟨d1, d2, d3⟩, ⟨d4, d5, d6⟩⟩ hE))))
      · rw [if_neg c2, if_neg (by omega)] at h4
        rw [if_neg (fun z => c2 (d4.trans z))] at h5
        have g1 := d6 (d5.resolve_left c2)
        have g2 := x_take_mom (dg := m_degrees) (br := m_brown) (x_mom_copy (row' := F_X5_copies u_row (1 + 1) 0) (r' := 0) g1 (fun k hk => by rw [x_copies (by omega), if_pos (by omega)]; congr 1; omega))
        generalize F_X1_take m_degrees m_brown i1_down i1_degrees i1_brown i1_core i1_water i1_pricked i1_thinSpots i1_seconds i1_gone i1_splitAt i1_steam = T at g2 h4
        obtain ⟨t0, t1, t2, t3, t4, t5, t6, t7, t8, t9, t10⟩ := T
        have hs := (x_mom0 g2).2.2.2.2.2.1
        rw [hs] at h5
        simp only [Prod.mk.injEq] at h4 h5
        obtain ⟨rfl, rfl, rfl, rfl, rfl, rfl, rfl, rfl, rfl, rfl, rfl, rfl⟩ := h4
        obtain ⟨rfl, rfl⟩ := h5
        exact And.intro rfl (And.intro hA (And.intro hB (And.intro g2 (And.intro (x_kept_row ⟨⟨d1, d2, d3⟩, ⟨d4, d5, d6⟩⟩ (fun q hq => by rw [x_copies (by omega), if_neg (by omega)])) hE))))
  · rw [if_neg c1] at h4
    rw [if_pos (x_ioP 0 1 (by decide) (by decide) c1)] at h5
    simp only [Prod.mk.injEq] at h4 h5
    obtain ⟨rfl, rfl, rfl, rfl, rfl, rfl, rfl, rfl, rfl, rfl, rfl, rfl⟩ := h4
    obtain ⟨rfl, rfl⟩ := h5
    exact And.intro rfl (And.intro hA (And.intro hB (And.intro hC (And.intro ⟨⟨d1, d2, d3⟩, ⟨d4, d5, d6⟩⟩ hE))))
