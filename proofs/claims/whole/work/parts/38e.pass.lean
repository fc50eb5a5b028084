/-! the steps of the law: a second, both sides -/
theorem x_nmG {α β : Type} {e : α} {K : α → β} {x : β} (h : x_nm e K = x) : ∃ v, v = e ∧ K v = x := ⟨e, rfl, h⟩
theorem x_updF {g R : Nat → Int32} {i : Nat} {x : Int32} (h : R = upd g i x) : R i = x ∧ ∀ q : Nat, q ≠ i → R q = g q := by
  subst h
  exact ⟨x_updS _ _ _, fun q hq => x_updN _ _ hq⟩
theorem x_second {down core water pricked thin seconds gone splitAt steam radius skin filling ends thinBy bentFace bentBy kind ht : Int32} {degrees brown row is : Nat → Int32} {r : Nat} (h : RelMom (down, core, water, pricked, thin, seconds, gone, splitAt, steam, degrees, brown) row r) (hR : Btw 1 radius 9) (e0 : is 0 = radius) (e1 : is 1 = skin) (e2 : is 2 = filling) (e4 : is 4 = ends) (e5 : is 5 = thinBy) (e7 : is 7 = bentFace) (e8 : is 8 = bentBy) (hh : Btw 0 ht 300) {z c w se g sp st : Int32} {u br : Nat → Int32} (ho : F_X1_pass down degrees brown core water pricked thin seconds gone splitAt radius skin filling ends thinBy bentFace bentBy kind ht = (z, c, w, se, g, sp, st, u, br)) {R : Nat → Int32} (hS : F_X5_second is row r ht kind = R) :
    RelMom (down, c, w, pricked, thin, se, g, sp, st, u, br) R r ∧ R (20 * r + 17) = z ∧ ∀ q : Nat, (q < 20 * r ∨ 20 * r + 20 ≤ q) → R q = row q := by
  obtain ⟨⟨o1, o2, o3, o4, o5, o6, o7, o8, o9⟩, m1, m2, m3, m4, m5, m6, m7, m8, m9, m10⟩ := h
  -- the class
  rw [F_X1_pass] at ho
  obtain ⟨U, hU, ho⟩ := x_nmG ho
  obtain ⟨C, hC, ho⟩ := x_nmG ho
  obtain ⟨B, hB, ho⟩ := x_nmG ho
  obtain ⟨BR, hBR, ho⟩ := x_nmG ho
  obtain ⟨Z, hZ, ho⟩ := x_nmG ho
  obtain ⟨G, hG, ho⟩ := x_nmG ho
  have hU1 := x_faces1 (down := down) (h := ht) (kind := kind) (degrees := degrees) hU.symm
  have hUb : ∀ f : Nat, f < 4 → Btw 0 (U f) 300 := fun f hf => by rw [hU1 f hf]; exact x_nd_ok (o9 f hf).1 hh
  have hc := x_core_ok o2 hR (x_sum_ok hUb)
  rw [x_warm1 hc.2] at hC
  have hCb : Btw 0 C 300 := by rw [hC]; exact hc.1
  -- the reference
  rw [F_X5_second] at hS
  obtain ⟨o, hso, hS⟩ := x_nmG hS
  obtain ⟨R5, h5, hS⟩ := x_nmG hS
  obtain ⟨v7, h7, hS⟩ := x_nmG hS
  obtain ⟨v9, h9, hS⟩ := x_nmG hS
  obtain ⟨R10, h10, hS⟩ := x_nmG hS
  obtain ⟨v12, h12, hS⟩ := x_nmG hS
  obtain ⟨v14, h14, hS⟩ := x_nmG hS
  obtain ⟨R15, h15, hS⟩ := x_nmG hS
  obtain ⟨R17, h17, hS⟩ := x_nmG hS
  obtain ⟨R18, h18, hS⟩ := x_nmG hS
  obtain ⟨z19, h19, hS⟩ := x_nmG hS
  obtain ⟨R22, h22, hS⟩ := x_nmG hS
  obtain ⟨R24, h24, hS⟩ := x_nmG hS
  obtain ⟨v26, h26, hS⟩ := x_nmG hS
  obtain ⟨R27, h27, hS⟩ := x_nmG hS
  obtain ⟨f1, f2, f3, f4⟩ := x_faces5 (is := is) hso.symm
  have ue : ∀ f : Nat, f < 4 → x_nd (row (20 * r + 16)) ht kind f (row (20 * r + f)) = U f := fun f hf => by rw [m10, (m1 f hf).1, hU1 f hf]
  have f3 : ∀ f : Nat, f < 4 → o.2.2 (20 * r + f) = U f := fun f hf => (f3 f hf).trans (ue f hf)
  have f1 : o.1 = 0 + U 0 + U 1 + U 2 + U 3 := by
    rw [f1]
    dsimp only
    rw [ue 0 (by decide), ue 1 (by decide), ue 2 (by decide), ue 3 (by decide)]
  have f2 : ∀ core : Int32, (if core ≤ o.2.1 then o.2.1 else core) = x_hot U core := fun core => by
    rw [f2 core]
    simp only [x_hot]
    rw [ue 0 (by decide), ue 1 (by decide), ue 2 (by decide), ue 3 (by decide)]
  obtain ⟨s5, n5⟩ := x_updF h5
  obtain ⟨s10, n10⟩ := x_updF h10
  obtain ⟨s15, n15⟩ := x_updF h15
  obtain ⟨s18, n18⟩ := x_updF h18
  obtain ⟨s22, n22⟩ := x_updF h22
  obtain ⟨s27, n27⟩ := x_updF h27
  have s5 : R5 (20 * r + 4) = C := by
    rw [s5, f1, f4 _ (by omega), m2, e0, hC]
  have h7 : v7 = x_hot U C := by rw [h7, s5, f2]
  have h9 : v9 = if x_hot U C ≤ 100 then 0 else if water ≤ 0 then 0 else x_hot U C - 100 := by
    rw [h9, n5 _ (by omega), f4 _ (by omega), m3, h7]
  have h12 : v12 = if C ≤ 60 then 0 else pricked / 3 := by
    rw [h12, n10 _ (by omega), s5, n10 _ (by omega), n5 _ (by omega), f4 _ (by omega), m4]
  have h14 : v14 = if water ≤ v9 / 20 + (if C ≤ 60 then 0 else pricked / 3) then 0 else water - (v9 / 20 + (if C ≤ 60 then 0 else pricked / 3)) := by
    rw [h14, n10 (20 * r + 9) (by omega), n5 _ (by omega), f4 _ (by omega), m3, s10, h12]
  obtain ⟨b1, b2, b3⟩ := x_boil1 hUb hCb o3 o4 h9 h14
  rw [b1] at hB
  obtain ⟨p1, p2⟩ := x_brown5 (row := R15) (r := r)
  rw [← h17] at p1 p2
  have base : ∀ q : Nat, (q < 20 * r ∨ 20 * r + 4 < q) → q ≠ 20 * r + 9 → q ≠ 20 * r + 15 → R15 q = row q := fun q a b c => by
    rw [n15 _ b, n10 _ c, n5 _ (by omega), f4 _ (by omega)]
  have baseF : ∀ f : Nat, f < 4 → R15 (20 * r + f) = U f := fun f hf => by
    rw [n15 _ (by omega), n10 _ (by omega), n5 _ (by omega), f3 f hf]
  have k22 : ∀ q : Nat, q ≠ 20 * r + 12 → q ≠ 20 * r + 17 → (q < 20 * r + 5 ∨ 20 * r + 9 ≤ q) → R22 q = R15 q := fun q a b c => by
    rw [n22 _ b, n18 _ a, p2 _ c]
  have gF : ∀ f : Nat, f < 4 → R22 (20 * r + f) = U f := fun f hf => by rw [k22 _ (by omega) (by omega) (by omega), baseF f hf]
  have g4 : R22 (20 * r + 4) = C := by rw [k22 _ (by omega) (by omega) (by omega), n15 _ (by omega), n10 _ (by omega), s5]
  have gB : ∀ f : Nat, f < 4 → R22 (20 * r + 5 + f) = BR f := fun f hf => by
    rw [n22 _ (by omega), n18 _ (by omega), p1 f hf, baseF f hf, base _ (by omega) (by omega) (by omega), (m1 f hf).2, hBR, x_brown1 f hf]
  have g9 : R22 (20 * r + 9) = v14 := by rw [k22 _ (by omega) (by omega) (by omega), s15]
  have g10 : R22 (20 * r + 10) = pricked := by rw [k22 _ (by omega) (by omega) (by omega), base _ (by omega) (by omega) (by omega), m4]
  have g11 : R22 (20 * r + 11) = thin := by rw [k22 _ (by omega) (by omega) (by omega), base _ (by omega) (by omega) (by omega), m5]
  have g12 : R22 (20 * r + 12) = seconds + 1 := by rw [n22 _ (by omega), s18, p2 _ (by omega), base _ (by omega) (by omega) (by omega), m6]
  have g13 : R22 (20 * r + 13) = gone := by rw [k22 _ (by omega) (by omega) (by omega), base _ (by omega) (by omega) (by omega), m7]
  have g14 : R22 (20 * r + 14) = splitAt := by rw [k22 _ (by omega) (by omega) (by omega), base _ (by omega) (by omega) (by omega), m8]
  have g15 : R22 (20 * r + 15) = v9 := by rw [k22 _ (by omega) (by omega) (by omega), n15 _ (by omega), s10]
  have g16 : R22 (20 * r + 16) = down := by rw [k22 _ (by omega) (by omega) (by omega), base _ (by omega) (by omega) (by omega), m10]
  have gO : ∀ q : Nat, (q < 20 * r ∨ 20 * r + 20 ≤ q) → R22 q = row q := fun q hq => by rw [k22 _ (by omega) (by omega) (by omega), base _ (by omega) (by omega) (by omega)]
  have hz : z19 = Z := by
    rw [h19, hZ, hB]
    refine x_press5 o6 ?_ ?_ ?_ ?_ e2
    · rw [← g4, n22 _ (by omega)]
    · rw [← g10, n22 _ (by omega)]
    · rw [← g13, n22 _ (by omega)]
    · rw [← g15, n22 _ (by omega)]
  -- the end of the second
  have last : ∃ g2 sp2 : Int32, G = (g2, sp2) ∧ (g2 = 0 ∨ g2 = 1 ∨ g2 = 2) ∧ Btw (-9) sp2 3 ∧ R27 (20 * r + 13) = g2 ∧ R27 (20 * r + 14) = sp2 ∧ ∀ q : Nat, q ≠ 20 * r + 13 → q ≠ 20 * r + 14 → R27 q = R22 q := by
    by_cases c0 : gone = 0
    · subst c0
      rw [if_pos rfl, x_nmE, F_X1_goIfPulled, ← hz] at hG
      rw [hz] at h24 h26 hG
      rw [e0, e4] at h26
      rcases x_goes (is := is) (z := Z) (bentFace := bentFace) (bentBy := bentBy) (radius := radius) (skin := skin) (ends := ends) (thinBy := thinBy) gF g11 e0 e1 e4 e5 e7 e8 g13 g14 (4 + 1) 0 (by decide) with ⟨q1, q2, q3⟩ | ⟨q1, q2, q3⟩ | ⟨f, hf, q1, q2⟩
      · rw [q1] at hG
        rw [q2] at h24
        rw [h24, g13, if_pos rfl, if_pos q3] at h26
        refine ⟨0, splitAt, hG, Or.inl rfl, o7, by rw [s27, h26], by rw [n27 _ (by omega), h24, g14], fun q a b => by rw [n27 _ a, h24]⟩
      · rw [q1] at hG
        rw [q2] at h24
        rw [h24, g13, if_pos rfl, if_neg q3] at h26
        refine ⟨2, splitAt, hG, Or.inr (Or.inr rfl), o7, by rw [s27, h26], by rw [n27 _ (by omega), h24, g14], fun q a b => by rw [n27 _ a, h24]⟩
      · rw [q1] at hG
        rw [q2] at h24
        rw [h24, x_updN _ _ (by omega), x_updS, if_neg (by decide)] at h26
        refine ⟨1, nI f, hG, Or.inr (Or.inl rfl), ?_, by rw [s27, h26], by rw [n27 _ (by omega), h24, x_updS], fun q a b => by rw [n27 _ a, h24, x_updN _ _ b, x_updN _ _ a]⟩
        exact x_bW (x_btw_nI (lo := 0) (hi := 3) (by omega) (by omega) (by decide)) (by decide) (by decide)
    · rw [if_neg c0] at hG
      rw [x_gone5 _ _ _ (by rw [g13]; exact c0)] at h24
      rw [h24, g13, if_neg c0] at h26
      exact ⟨gone, splitAt, hG, o6, o7, by rw [s27, h26], by rw [n27 _ (by omega), h24, g14], fun q a b => by rw [n27 _ a, h24]⟩
  obtain ⟨g2, sp2, rfl, l1, l2, l3, l4, l5⟩ := last
  rw [hB] at ho
  have ho := ho
  simp only [Prod.mk.injEq] at ho
  obtain ⟨rfl, rfl, rfl, rfl, rfl, rfl, rfl, rfl, rfl⟩ := ho
  subst hS
  refine And.intro (And.intro (And.intro o1 (And.intro hCb (And.intro b3 (And.intro o4 (And.intro o5 (And.intro l1 (And.intro l2 (And.intro b2 (fun f hf => And.intro (hUb f hf) ?_))))))))) (And.intro (fun f hf => And.intro ?_ ?_) ?_)) (And.intro ?_ (fun q hq => ?_))
  · rw [hBR, x_brown1 f hf]
    exact x_br_ok (hUb f hf) (o9 f hf).2
  · rw [l5 _ (by omega) (by omega), gF f hf]
  · rw [l5 _ (by omega) (by omega), gB f hf]
  · refine And.intro ?_ (And.intro ?_ (And.intro ?_ (And.intro ?_ (And.intro ?_ (And.intro l3 (And.intro l4 (And.intro ?_ ?_)))))))
    · rw [l5 _ (by omega) (by omega), g4]
    · rw [l5 _ (by omega) (by omega), g9]
    · rw [l5 _ (by omega) (by omega), g10]
    · rw [l5 _ (by omega) (by omega), g11]
    · rw [l5 _ (by omega) (by omega), g12]
    · rw [l5 _ (by omega) (by omega), g15]
    · rw [l5 _ (by omega) (by omega), g16]
  · rw [l5 _ (by omega) (by omega), s22, hz]
  · rw [l5 _ (by omega) (by omega), gO q hq]
