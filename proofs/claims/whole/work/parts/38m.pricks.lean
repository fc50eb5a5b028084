/-! the steps of the law: pricks -/
theorem x_jd2 {first wh gr ga hi down core water pricked thin seconds gone splitAt steam : Int32} {degrees brown : Nat → Int32} : x_jd 2 first (wh, gr, ga, hi, down, core, water, pricked, thin, seconds, gone, splitAt, steam, degrees, brown) = (wh, gr, ga, hi, down, core, water, F_X1_prickBy pricked first, thin, seconds, gone, splitAt, steam, degrees, brown) := rfl
def jWater (J : TJ) : Int32 := J.2.2.2.2.2.2.1
theorem x_pricks_L {rp : TRP} {is doings doing kinds firsts secs : Nat → Int32} {n w : Nat} {water radius skin filling ends thinBy bentFace bentBy : Int32} (hrpE : rp = (radius, skin, filling, ends, thinBy, bentFace, bentBy)) (hrp : RelRp rp is) (hrk : RpOk rp) (hpl : RelPl n kinds firsts secs 0 doings doing) (hsec : ∀ k : Nat, k < 12 → (secs k).toNatClampNeg ≤ 99 ∧ secs k = nI (secs k).toNatClampNeg) (hw : is 3 = water) (hb : Btw 0 water 999) :
    ∀ (m m2 k : Nat) (tw tm ta th wh gr ga hi down core wat pricked thin seconds gone splitAt steam : Int32) (degrees brown row : Nat → Int32), 10 - k < m → 10 - k < m2 →
      (F_X4_pricks_L13 radius skin filling water ends thinBy bentFace bentBy n kinds firsts secs w m k wh gr ga hi down core wat pricked thin seconds gone splitAt steam degrees brown).1 = (F_X5_pricks_L14 is doings doing w m2 k tw tm ta th row).1 ∧ ∀ q : Nat, q < 60 → (F_X5_pricks_L14 is doings doing w m2 k tw tm ta th row).2.2.2.2.2 q = row q := by
  subst hrpE
  intro m
  induction m with
  | zero => intro m2 k tw tm ta th wh gr ga hi down core wat pricked thin seconds gone splitAt steam degrees brown row a; exact absurd a (Nat.not_lt_zero _)
  | succ m ih =>
    intro m2 k tw tm ta th wh gr ga hi down core wat pricked thin seconds gone splitAt steam degrees brown row a b
    cases m2 with
    | zero => exact absurd b (Nat.not_lt_zero _)
    | succ m2 =>
      by_cases c : 10 ≤ k
      · rw [F_X4_pricks_L13, F_X5_pricks_L14, if_pos c, if_pos (by omega)]
        exact ⟨rfl, fun _ _ => rfl⟩
      · obtain ⟨f1, f2, f3, rowz, f4, f5, f6⟩ := x_fresh5 (is := is) (row := row) (dg := degrees) (br := brown) (spots := 15) hw hb ⟨by decide, by decide⟩
        have g3 : JT 0 (x_jd 2 (nI k) (F_X0_setOut degrees brown water 15)) := x_jdT f1
        have hsw := x_swE (rp := (radius, skin, filling, ends, thinBy, bentFace, bentBy)) hpl hsec (by omega) g3
        obtain ⟨tw1, tm1, ta1, th1, row1, h1, h2⟩ := x_holdsAll (row := row) (dg := degrees) (br := brown) (tw := tw) (tm := tm) (ta := ta) (th := th) (p := k) (t := 0) hrp hrk hpl hw hb (by omega) (by omega)
        have hwh : x_wh (radius, skin, filling, ends, thinBy, bentFace, bentBy) kinds firsts secs n degrees brown water k 0 = x_pl (radius, skin, filling, ends, thinBy, bentFace, bentBy) kinds firsts secs n 0 (x_jd 2 (nI k) (F_X0_setOut degrees brown water 15)) := rfl
        have hthin := x_whThin (A := 0) (dg := degrees) (br := brown) (p := k) (t := 0) hrk hpl hb (by omega) (by omega)
        rw [nI_0] at h1
        rw [← hwh] at hsw
        obtain ⟨row2, r1, r2, r3, r4, r5, -⟩ := x_prep5 (row := row1) (dg := degrees) (br := brown) (A := 0) (p := k) (t := 0) hrp hw hb ⟨by decide, by decide⟩ (by omega) (by omega)
        obtain ⟨i1, tw2, tm2, ta2, th2, row3, i2, i3, i4⟩ := x_plan5A (s := 0) hrp hpl (by omega) r5 r3
        have hw2 : ∀ x : Int32, jGone (x_wh (radius, skin, filling, ends, thinBy, bentFace, bentBy) kinds firsts secs n degrees brown water k 0) = 0 → row3 69 = jWater (x_wh (radius, skin, filling, ends, thinBy, bentFace, bentBy) kinds firsts secs n degrees brown water k 0) := by
          intro x g0
          have e := hthin g0
          rw [e] at i3
          generalize x_wh (radius, skin, filling, ends, thinBy, bentFace, bentBy) kinds firsts secs n degrees brown water k 0 = J at i3
          obtain ⟨wh', gr', ga', hi', down', core', wat', pricked', thin', seconds', gone', splitAt', steam', degrees', brown'⟩ := J
          exact i3.2.2.2.2.1
        have e5 : F_X5_pricks_L14 is doings doing w (m2 + 1) k tw tm ta th row = if jGone (x_wh (radius, skin, filling, ends, thinBy, bentFace, bentBy) kinds firsts secs n degrees brown water k 0) = 0 then ((if w = 0 then nI k else row3 69), tw2, tm2, ta2, th2, row3) else F_X5_pricks_L14 is doings doing w m2 (k + 1) tw1 tm1 ta1 th1 row1 := by
          rw [F_X5_pricks_L14, if_neg c, h1, x_nmE]
          dsimp only
          by_cases g0 : jGone (x_wh (radius, skin, filling, ends, thinBy, bentFace, bentBy) kinds firsts secs n degrees brown water k 0) = 0
          · rw [if_pos g0, if_neg (by decide), if_pos g0, r1, x_nmE, x_nmE]
            dsimp only
            rw [i2, x_nmE, x_nmE]
          · rw [if_neg g0, if_pos rfl, if_neg g0]
        rw [F_X4_pricks_L13, if_neg (by omega), e5, x_nmE]
        generalize F_X0_setOut degrees brown water 15 = J0 at hsw
        obtain ⟨wh0, gr0, ga0, hi0, down0, core0, wat0, pricked0, thin0, seconds0, gone0, splitAt0, steam0, degrees0, brown0⟩ := J0
        rw [x_jd2] at hsw
        obtain ⟨hs1, hs2⟩ := hsw
        simp only [x_sw] at hs1 hs2
        dsimp only
        rw [x_nmE]
        generalize F_X4_staysWhole radius skin filling ends thinBy bentFace bentBy n kinds firsts secs wh0 gr0 ga0 hi0 down0 degrees0 brown0 core0 wat0 (F_X1_prickBy pricked0 (nI k)) thin0 seconds0 gone0 splitAt0 steam0 = o at hs1 hs2
        rw [x_nmE, hs1]
        by_cases g0 : jGone (x_wh (radius, skin, filling, ends, thinBy, bentFace, bentBy) kinds firsts secs n degrees brown water k 0) = 0
        · rw [if_pos g0, if_neg (by decide), if_pos g0, x_nmE, hs2 g0, hw2 0 g0]
          refine ⟨rfl, fun q hq => (i4 q hq).trans ((r4 q hq).trans ((r2 q hq).trans (h2 q hq)))⟩
        · rw [if_neg g0, if_pos rfl, if_neg g0]
          obtain ⟨l1, l2⟩ := ih m2 (k + 1) tw1 tm1 ta1 th1 o.2.1 o.2.2.1 o.2.2.2.1 o.2.2.2.2.1 o.2.2.2.2.2.1 o.2.2.2.2.2.2.1 o.2.2.2.2.2.2.2.1 o.2.2.2.2.2.2.2.2.1 thin0 o.2.2.2.2.2.2.2.2.2.1 o.2.2.2.2.2.2.2.2.2.2.1 o.2.2.2.2.2.2.2.2.2.2.2.1 o.2.2.2.2.2.2.2.2.2.2.2.2.1 o.2.2.2.2.2.2.2.2.2.2.2.2.2.1 o.2.2.2.2.2.2.2.2.2.2.2.2.2.2 row1 (by omega) (by omega)
          exact ⟨l1, fun q hq => (l2 q hq).trans (h2 q hq)⟩
theorem s_pricks {t_kept : Nat → Int32} {t_heats : Nat → Int32} {t_salts : Nat → Int32} {t_crumbsOf : Nat → Int32} {t_tests : Nat} {t_traced : Int64} {r_radius : Int32} {r_skin : Int32} {r_filling : Int32} {r_water : Int32} {r_ends : Int32} {r_thin : Int32} {r_chance : Int32} {r_bentFace : Int32} {r_bentBy : Int32} {r_doings : Nat} {r_kinds : Nat → Int32} {r_firsts : Nat → Int32} {r_seconds : Nat → Int32} {d_seconds : Nat → Int32} {e_text : Nat → Int32} {e_length : Nat} {m_down : Int32} {m_degrees : Nat → Int32} {m_brown : Nat → Int32} {m_core : Int32} {m_water : Int32} {m_pricked : Int32} {m_thinSpots : Int32} {m_seconds : Int32} {m_gone : Int32} {m_splitAt : Int32} {m_steam : Int32} {j_when : Int32} {j_greatest : Int32} {j_greatestAt : Int32} {j_hiss : Int32} {jm_down : Int32} {jm_degrees : Nat → Int32} {jm_brown : Nat → Int32} {jm_core : Int32} {jm_water : Int32} {jm_pricked : Int32} {jm_thinSpots : Int32} {jm_seconds : Int32} {jm_gone : Int32} {jm_splitAt : Int32} {jm_steam : Int32} {i0_down : Int32} {i0_degrees : Nat → Int32} {i0_brown : Nat → Int32} {i0_core : Int32} {i0_water : Int32} {i0_pricked : Int32} {i0_thinSpots : Int32} {i0_seconds : Int32} {i0_gone : Int32} {i0_splitAt : Int32} {i0_steam : Int32} {i1_down : Int32} {i1_degrees : Nat → Int32} {i1_brown : Nat → Int32} {i1_core : Int32} {i1_water : Int32} {i1_pricked : Int32} {i1_thinSpots : Int32} {i1_seconds : Int32} {i1_gone : Int32} {i1_splitAt : Int32} {i1_steam : Int32} {u_length : Nat} {u_text : Nat → Int32} {u_is : Nat → Int32} {u_doings : Nat → Int32} {u_doing : Nat → Int32} {u_row : Nat → Int32} {u_isKept : Nat → Int32} {u_when : Int32} {u_most : Int32} {u_mostAt : Int32} {u_hiss : Int32} {u_heats : Nat → Int32} {u_orders : Nat → Int32} {u_tests : Nat} {u_salt : Nat → Int32} {u_crumbs : Nat → Int32} {u_traced : Int64} {a1 : Int32} {j_when_231 : Int32} {j_greatest_232 : Int32} {j_greatestAt_233 : Int32} {j_hiss_234 : Int32} {jm_down_235 : Int32} {jm_core_236 : Int32} {jm_water_237 : Int32} {jm_pricked_238 : Int32} {jm_thinSpots_239 : Int32} {jm_seconds_240 : Int32} {jm_gone_241 : Int32} {jm_splitAt_242 : Int32} {jm_steam_243 : Int32} {jm_degrees_244 : Nat → Int32} {jm_brown_245 : Nat → Int32} {u_when_249 : Int32} {u_most_250 : Int32} {u_mostAt_251 : Int32} {u_hiss_252 : Int32} {u_row_253 : Nat → Int32} {z_246 z_254 : Int32} (hI : Inv (r_radius, r_skin, r_filling, r_water, r_ends, r_thin, r_chance, r_bentFace, r_bentBy, r_doings, r_kinds, r_firsts, r_seconds) e_length e_text (m_down, m_core, m_water, m_pricked, m_thinSpots, m_seconds, m_gone, m_splitAt, m_steam, m_degrees, m_brown) (i0_down, i0_core, i0_water, i0_pricked, i0_thinSpots, i0_seconds, i0_gone, i0_splitAt, i0_steam, i0_degrees, i0_brown) (i1_down, i1_core, i1_water, i1_pricked, i1_thinSpots, i1_seconds, i1_gone, i1_splitAt, i1_steam, i1_degrees, i1_brown) t_kept t_heats t_tests t_salts t_crumbsOf t_traced u_length u_text u_is u_doings u_doing u_row u_isKept u_heats u_orders u_tests u_salt u_crumbs u_traced d_seconds) (h4 : (z_246, j_when_231, j_greatest_232, j_greatestAt_233, j_hiss_234, jm_down_235, jm_core_236, jm_water_237, jm_pricked_238, jm_thinSpots_239, jm_seconds_240, jm_gone_241, jm_splitAt_242, jm_steam_243, jm_degrees_244, jm_brown_245) = F_X4_pricks r_radius r_skin r_filling r_water r_ends r_thin r_bentFace r_bentBy r_doings r_kinds r_firsts r_seconds j_when j_greatest j_greatestAt j_hiss jm_down jm_degrees jm_brown jm_core jm_water jm_pricked jm_thinSpots jm_seconds jm_gone jm_splitAt jm_steam a1) (h5 : (z_254, u_when_249, u_most_250, u_mostAt_251, u_hiss_252, u_row_253) = F_X5_pricks u_is u_doings u_doing u_row u_when u_most u_mostAt u_hiss a1) : z_246 = z_254 ∧ Inv (r_radius, r_skin, r_filling, r_water, r_ends, r_thin, r_chance, r_bentFace, r_bentBy, r_doings, r_kinds, r_firsts, r_seconds) e_length e_text (m_down, m_core, m_water, m_pricked, m_thinSpots, m_seconds, m_gone, m_splitAt, m_steam, m_degrees, m_brown) (i0_down, i0_core, i0_water, i0_pricked, i0_thinSpots, i0_seconds, i0_gone, i0_splitAt, i0_steam, i0_degrees, i0_brown) (i1_down, i1_core, i1_water, i1_pricked, i1_thinSpots, i1_seconds, i1_gone, i1_splitAt, i1_steam, i1_degrees, i1_brown) t_kept t_heats t_tests t_salts t_crumbsOf t_traced u_length u_text u_is u_doings u_doing u_row_253 u_isKept u_heats u_orders u_tests u_salt u_crumbs u_traced d_seconds := by
  have hI' := hI
  obtain ⟨hrec, -⟩ := hI'
  have hrp := x_relrp hrec
  have hrk := x_rpok hrec
  have hpl := x_relpl hrec
  obtain ⟨⟨⟨-, -, -, hwb, -⟩, hn, hsec, -⟩, ⟨-, -, -, hw, -⟩, -⟩ := hrec
  rw [F_X4_pricks, x_nmE] at h4
  rw [F_X5_pricks, x_nmE] at h5
  by_cases c1 : F_X4_outside a1 0 1 = 0
  · rw [if_pos c1, x_nmE] at h4
    rw [if_neg (x_ioN 0 1 (by decide) (by decide) c1), x_nmE] at h5
    obtain ⟨l1, l2⟩ := x_pricks_L (w := a1.toNatClampNeg) rfl hrp hrk hpl hsec hw hwb (10 + 1) (10 + 1) 0 u_when u_most u_mostAt u_hiss j_when j_greatest j_greatestAt j_hiss jm_down jm_core jm_water jm_pricked jm_thinSpots jm_seconds jm_gone jm_splitAt jm_steam jm_degrees jm_brown u_row (by omega) (by omega)
    rw [← h4, ← h5] at l1
    rw [← h5] at l2
    exact And.intro l1 (x_inv_row hI l2)
  · rw [if_neg c1] at h4
    rw [if_pos (x_ioP 0 1 (by decide) (by decide) c1)] at h5
    simp only [Prod.mk.injEq] at h4 h5
    rw [h4.1, h5.1, h5.2.2.2.2.2]
    exact And.intro rfl hI
