/-! the steps of the law: type -/
theorem x_byte_b (x : BitVec 64) (s : Nat) (hs : s + 8 ≤ 64) : BitVec.truncate 8 (BitVec.truncate 32 (x >>> s)) = BitVec.truncate 8 (BitVec.truncate 32 (x.sshiftRight s)) := by
  apply BitVec.eq_of_getLsbD_eq
  intro i hi
  simp only [BitVec.truncate_eq_setWidth, BitVec.getLsbD_setWidth, BitVec.getLsbD_ushiftRight, BitVec.getLsbD_sshiftRight]
  have h1 : s + i < 64 := by omega
  simp [h1, hi, show i < 32 by omega, show ¬ 64 ≤ i by omega]
theorem x_and255 (y : Int32) : y &&& 255 = y.toInt8.toInt32 &&& 255 := by
  apply Int32.toBitVec_inj.mp
  simp only [Int32.toBitVec_and, Int8.toBitVec_toInt32, Int32.toBitVec_toInt8]
  apply BitVec.eq_of_getLsbD_eq
  intro i hi
  have e : (255 : Int32).toBitVec = BitVec.ofNat 32 255 := rfl
  rw [e]
  simp only [BitVec.getLsbD_and, BitVec.getLsbD_signExtend, BitVec.getLsbD_setWidth, hi]
  by_cases c : i < 8
  · simp [c]
  · have e2 : (BitVec.ofNat 32 255).getLsbD i = false := by
      have : ∀ j : Fin 32, ¬ j.val < 8 → (BitVec.ofNat 32 255).getLsbD j.val = false := by decide
      exact this ⟨i, hi⟩ c
    rw [e2]
    simp
theorem x_type_sh (a : Int64) (s : Nat) (hs : ∃ k : Nat, k < 8 ∧ s = 8 * k) : ((a.toUInt64 >>> ((nI s).toInt64.toUInt64 &&& Int64.toUInt64 63)).toInt64).toBitVec = a.toBitVec >>> s ∧ (a >>> ((nI s).toInt64 &&& 63)).toBitVec = a.toBitVec.sshiftRight s := by
  obtain ⟨k, hk, rfl⟩ := hs
  have e : k = 0 ∨ k = 1 ∨ k = 2 ∨ k = 3 ∨ k = 4 ∨ k = 5 ∨ k = 6 ∨ k = 7 := by omega
  rcases e with rfl | rfl | rfl | rfl | rfl | rfl | rfl | rfl <;> exact ⟨rfl, rfl⟩
theorem x_se {w v : Nat} (x : BitVec w) (h : v ≤ w) : x.signExtend v = x.setWidth v := by
  apply BitVec.eq_of_getLsbD_eq
  intro i hi
  simp only [BitVec.getLsbD_signExtend, BitVec.getLsbD_setWidth, hi]
  simp [show i < w by omega]
theorem x_type_byte (a : Int64) (s : Nat) (hs : ∃ k : Nat, k < 8 ∧ s = 8 * k) : ((a.toUInt64 >>> ((nI s).toInt64.toUInt64 &&& Int64.toUInt64 63)).toInt64).toInt32 &&& 255 = ((a >>> ((nI s).toInt64 &&& 63)).toInt32).toInt8.toInt32 &&& 255 := by
  obtain ⟨e1, e2⟩ := x_type_sh a s hs
  generalize ((a.toUInt64 >>> ((nI s).toInt64.toUInt64 &&& Int64.toUInt64 63)).toInt64) = A at e1 ⊢
  generalize (a >>> ((nI s).toInt64 &&& 63)) = B at e2 ⊢
  obtain ⟨k, hk, rfl⟩ := hs
  rw [x_and255 A.toInt32]
  congr 2
  apply Int8.toBitVec_inj.mp
  have h := x_byte_b a.toBitVec (8 * k) (by omega)
  rw [← e1, ← e2] at h
  simp only [Int32.toBitVec_toInt8, Int64.toBitVec_toInt32, x_se (w := 64) (v := 32) _ (by decide), x_se (w := 32) (v := 8) _ (by decide)]
  exact h
theorem x_toInt8_id (y : Int32) : y.toInt8.toInt32.toInt8.toInt32 = y.toInt8.toInt32 := by
  congr 1
  apply Int8.toBitVec_inj.mp
  simp only [Int32.toBitVec_toInt8, Int8.toBitVec_toInt32, x_se (w := 32) (v := 8) _ (by decide)]
  apply BitVec.eq_of_getLsbD_eq
  intro i hi
  simp only [BitVec.getLsbD_signExtend, BitVec.getLsbD_setWidth, hi, show i < 32 by omega]
  simp
theorem x_append {t : Nat → Int32} {n : Nat} {c : Int32} (h : n < 300) : F_X2_append t n c = (n + 1, upd t n c) := by
  have h1 : ¬ nI n < 0 := by
    intro z
    have z2 : (nI n).toInt < 0 := Int32.lt_iff_toInt_lt.mp z
    rw [nI_toInt (by omega)] at z2
    omega
  rw [F_X2_append, if_neg h1, if_neg (show ¬ 300 ≤ n by omega)]
  repeat rw [x_nmE]
theorem x_type_L (a : Int64) : ∀ (n1 n2 m len : Nat) (et ut : Nat → Int32), m ≤ 8 → len + m ≤ 300 → m < n1 → m < n2 → (∀ k : Nat, k < len → et k = ut k &&& 255 ∧ (ut k).toInt8.toInt32 = ut k) →
    (F_X4_type_L35 a n1 m len et).1 = len + m ∧ (F_X5_type_L34 a n2 m len ut).1 = len + m ∧ ∀ k : Nat, k < len + m → (F_X4_type_L35 a n1 m len et).2 k = (F_X5_type_L34 a n2 m len ut).2 k &&& 255 ∧ ((F_X5_type_L34 a n2 m len ut).2 k).toInt8.toInt32 = (F_X5_type_L34 a n2 m len ut).2 k := by
  intro n1
  induction n1 with
  | zero => intro n2 m len et ut _ _ h; exact absurd h (Nat.not_lt_zero _)
  | succ n1 ih =>
    intro n2 m len et ut h1 h2 h3 h4 h5
    cases n2 with
    | zero => exact absurd h4 (Nat.not_lt_zero _)
    | succ n2 =>
      rw [F_X4_type_L35, F_X5_type_L34]
      by_cases c : m = 0
      · rw [if_pos c, if_pos c, c]
        exact ⟨rfl, rfl, h5⟩
      · rw [if_neg c, if_neg c, x_append (by omega), x_nmE, x_nmE]
        dsimp only
        have h := ih n2 (m - 1) (len + 1) (upd et len ((((a.toUInt64 >>> ((nI (8 * (m - 1))).toInt64.toUInt64 &&& Int64.toUInt64 63)).toInt64).toInt32) &&& 255)) (upd ut len (((a >>> ((nI (8 * (m - 1))).toInt64 &&& 63)).toInt32).toInt8.toInt32)) (by omega) (by omega) (by omega) (by omega) (fun k hk => by
          by_cases e : k = len
          · subst e
            rw [x_updS, x_updS]
            exact ⟨x_type_byte a _ ⟨m - 1, by omega, rfl⟩, x_toInt8_id _⟩
          · rw [x_updN _ _ e, x_updN _ _ e]
            exact h5 k (by omega))
        rw [show len + 1 + (m - 1) = len + m by omega] at h
        exact h
theorem s_type {t_kept : Nat → Int32} {t_heats : Nat → Int32} {t_salts : Nat → Int32} {t_crumbsOf : Nat → Int32} {t_tests : Nat} {t_traced : Int64} {r_radius : Int32} {r_skin : Int32} {r_filling : Int32} {r_water : Int32} {r_ends : Int32} {r_thin : Int32} {r_chance : Int32} {r_bentFace : Int32} {r_bentBy : Int32} {r_doings : Nat} {r_kinds : Nat → Int32} {r_firsts : Nat → Int32} {r_seconds : Nat → Int32} {d_seconds : Nat → Int32} {e_text : Nat → Int32} {e_length : Nat} {m_down : Int32} {m_degrees : Nat → Int32} {m_brown : Nat → Int32} {m_core : Int32} {m_water : Int32} {m_pricked : Int32} {m_thinSpots : Int32} {m_seconds : Int32} {m_gone : Int32} {m_splitAt : Int32} {m_steam : Int32} {i0_down : Int32} {i0_degrees : Nat → Int32} {i0_brown : Nat → Int32} {i0_core : Int32} {i0_water : Int32} {i0_pricked : Int32} {i0_thinSpots : Int32} {i0_seconds : Int32} {i0_gone : Int32} {i0_splitAt : Int32} {i0_steam : Int32} {i1_down : Int32} {i1_degrees : Nat → Int32} {i1_brown : Nat → Int32} {i1_core : Int32} {i1_water : Int32} {i1_pricked : Int32} {i1_thinSpots : Int32} {i1_seconds : Int32} {i1_gone : Int32} {i1_splitAt : Int32} {i1_steam : Int32} {u_length : Nat} {u_text : Nat → Int32} {u_is : Nat → Int32} {u_doings : Nat → Int32} {u_doing : Nat → Int32} {u_row : Nat → Int32} {u_isKept : Nat → Int32} {u_heats : Nat → Int32} {u_orders : Nat → Int32} {u_tests : Nat} {u_salt : Nat → Int32} {u_crumbs : Nat → Int32} {u_traced : Int64} {a1 : Int32} {a2 : Int32} {a3 : Int32} {e_length_1 : Nat} {e_text_2 : Nat → Int32} {u_length_6 : Nat} {u_text_7 : Nat → Int32} {z_3 z_8 : Int32} (hI : Inv (r_radius, r_skin, r_filling, r_water, r_ends, r_thin, r_chance, r_bentFace, r_bentBy, r_doings, r_kinds, r_firsts, r_seconds) e_length e_text (m_down, m_core, m_water, m_pricked, m_thinSpots, m_seconds, m_gone, m_splitAt, m_steam, m_degrees, m_brown) (i0_down, i0_core, i0_water, i0_pricked, i0_thinSpots, i0_seconds, i0_gone, i0_splitAt, i0_steam, i0_degrees, i0_brown) (i1_down, i1_core, i1_water, i1_pricked, i1_thinSpots, i1_seconds, i1_gone, i1_splitAt, i1_steam, i1_degrees, i1_brown) t_kept t_heats t_tests t_salts t_crumbsOf t_traced u_length u_text u_is u_doings u_doing u_row u_isKept u_heats u_orders u_tests u_salt u_crumbs u_traced d_seconds) (h4 : (z_3, e_length_1, e_text_2) = F_X4_type e_text e_length (((a1.toInt64) <<< ((32 : Int32).toInt64 &&& 63)) ||| ((a2.toInt64) &&& 4294967295)) a3) (h5 : (z_8, u_length_6, u_text_7) = F_X5_type u_length u_text (((a1.toInt64) <<< ((32 : Int32).toInt64 &&& 63)) ||| ((a2.toInt64) &&& 4294967295)) a3) : z_3 = z_8 ∧ Inv (r_radius, r_skin, r_filling, r_water, r_ends, r_thin, r_chance, r_bentFace, r_bentBy, r_doings, r_kinds, r_firsts, r_seconds) e_length_1 e_text_2 (m_down, m_core, m_water, m_pricked, m_thinSpots, m_seconds, m_gone, m_splitAt, m_steam, m_degrees, m_brown) (i0_down, i0_core, i0_water, i0_pricked, i0_thinSpots, i0_seconds, i0_gone, i0_splitAt, i0_steam, i0_degrees, i0_brown) (i1_down, i1_core, i1_water, i1_pricked, i1_thinSpots, i1_seconds, i1_gone, i1_splitAt, i1_steam, i1_degrees, i1_brown) t_kept t_heats t_tests t_salts t_crumbsOf t_traced u_length_6 u_text_7 u_is u_doings u_doing u_row u_isKept u_heats u_orders u_tests u_salt u_crumbs u_traced d_seconds := by
  obtain ⟨hA, ⟨b1, b2, b3⟩, hE⟩ := hI
  subst b2
  rw [F_X4_type, x_nmE] at h4
  rw [F_X5_type, x_nmE] at h5
  by_cases c1 : F_X4_outside a3 1 8 = 0
  · rw [if_pos c1, x_nmE] at h4
    rw [if_neg (x_ioN 1 8 (by decide) (by decide) c1), x_nmE] at h5
    have d1 := x_outs (lo := 1) (hi := 8) (by decide) (by decide) c1
    by_cases c2 : u_length + a3.toNatClampNeg ≤ 300
    · rw [if_pos c2, x_nmE] at h4
      rw [if_pos c2, x_nmE] at h5
      generalize (((a1.toInt64) <<< ((32 : Int32).toInt64 &&& 63)) ||| ((a2.toInt64) &&& 4294967295)) = A at h4 h5
      obtain ⟨q1, q2, q3⟩ := x_type_L A 9 9 (a3.toNatClampNeg - 1 + 1) u_length e_text u_text (by omega) (by omega) (by omega) (by omega) b3
      generalize F_X4_type_L35 A 9 (a3.toNatClampNeg - 1 + 1) u_length e_text = T4 at h4 q1 q3
      generalize F_X5_type_L34 A 9 (a3.toNatClampNeg - 1 + 1) u_length u_text = T5 at h5 q2 q3
      simp only [Prod.mk.injEq] at h4 h5
      obtain ⟨rfl, rfl, rfl⟩ := h4
      obtain ⟨rfl, rfl, rfl⟩ := h5
      refine And.intro (by rw [q1, q2]) (And.intro hA (And.intro (And.intro (by omega) (And.intro (by omega) (fun k hk => q3 k (by omega)))) hE))
    · rw [if_neg c2] at h4
      rw [if_neg c2] at h5
      simp only [Prod.mk.injEq] at h4 h5
      obtain ⟨rfl, rfl, rfl⟩ := h4
      obtain ⟨rfl, rfl, rfl⟩ := h5
      exact And.intro rfl (And.intro hA (And.intro (And.intro b1 (And.intro rfl b3)) hE))
  · rw [if_neg c1] at h4
    rw [if_pos (x_ioP 1 8 (by decide) (by decide) c1)] at h5
    simp only [Prod.mk.injEq] at h4 h5
    obtain ⟨rfl, rfl, rfl⟩ := h4
    obtain ⟨rfl, rfl, rfl⟩ := h5
    exact And.intro rfl (And.intro hA (And.intro (And.intro b1 (And.intro rfl b3)) hE))
