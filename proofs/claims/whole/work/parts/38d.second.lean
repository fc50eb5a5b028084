/-! the steps of the law: one second -/
theorem x_tdivQ (a c : Int) (hc : 0 < c) : (0 ≤ a → 0 ≤ a.tdiv c ∧ c * (a.tdiv c) ≤ a ∧ a < c * (a.tdiv c) + c) ∧ (a < 0 → a.tdiv c ≤ 0 ∧ a ≤ c * (a.tdiv c) ∧ c * (a.tdiv c) < a + c) := by
  have pos : ∀ a : Int, 0 ≤ a → 0 ≤ a.tdiv c ∧ c * (a.tdiv c) ≤ a ∧ a < c * (a.tdiv c) + c := by
    intro a h
    rw [Int.tdiv_eq_ediv_of_nonneg h]
    have h1 := Int.mul_ediv_add_emod a c
    have h2 := Int.emod_nonneg a (by omega : c ≠ 0)
    have h3 := Int.emod_lt_of_pos a hc
    have h4 : 0 ≤ a / c := Int.ediv_nonneg h (by omega)
    omega
  refine ⟨pos a, fun h => ?_⟩
  have h1 := pos (-a) (by omega)
  rw [Int.neg_tdiv] at h1
  rw [Int.mul_neg] at h1
  omega
theorem x_bAdd {x y : Int32} {a b c d : Int} (h1 : Btw a x b) (h2 : Btw c y d) (h3 : -2147483648 ≤ a + c) (h4 : b + d ≤ 2147483647) : (x + y).toInt = x.toInt + y.toInt := by
  obtain ⟨p1, p2⟩ := h1
  obtain ⟨p3, p4⟩ := h2
  rw [Int32.toInt_add]
  exact Int.bmod_eq_of_le (by omega) (by omega)
theorem x_bSub {x y : Int32} {a b c d : Int} (h1 : Btw a x b) (h2 : Btw c y d) (h3 : -2147483648 ≤ a - d) (h4 : b - c ≤ 2147483647) : (x - y).toInt = x.toInt - y.toInt := by
  obtain ⟨p1, p2⟩ := h1
  obtain ⟨p3, p4⟩ := h2
  rw [Int32.toInt_sub]
  exact Int.bmod_eq_of_le (by omega) (by omega)
theorem x_bDiv {x y : Int32} {a b : Int} (h1 : Btw a x b) (h3 : -2147483648 < a) (h4 : 0 < y.toInt) : (x / y).toInt = x.toInt.tdiv y.toInt := by
  obtain ⟨p1, p2⟩ := h1
  have p3 := Int32.toInt_lt x
  rw [Int32.toInt_div]
  have h5 := x_tdivQ x.toInt y.toInt h4
  generalize x.toInt.tdiv y.toInt = q at h5
  generalize x.toInt = X at *
  generalize y.toInt = Y at *
  have h6 : -2147483648 ≤ q ∧ q ≤ 2147483647 := by
    by_cases c : 0 ≤ X
    · obtain ⟨q1, q2, q3⟩ := h5.1 c
      have h7 : 1 * q ≤ Y * q := Int.mul_le_mul_of_nonneg_right (by omega) q1
      omega
    · obtain ⟨q1, q2, q3⟩ := h5.2 (by omega)
      have h7 : 1 * (-q) ≤ Y * (-q) := Int.mul_le_mul_of_nonneg_right (by omega) (by omega)
      rw [Int.mul_neg Y] at h7
      omega
  exact Int.bmod_eq_of_le (by omega) (by omega)
theorem x_bW {x : Int32} {a b c d : Int} (h : Btw a x b) (h1 : c ≤ a) (h2 : b ≤ d) : Btw c x d := ⟨by have := h.1; omega, by have := h.2; omega⟩
theorem x_bLit (x : Int32) (c : Int) (h : x.toInt = c) : Btw c x c := ⟨by omega, by omega⟩
theorem x_bI {x : Int32} {a b : Int} (h1 : a ≤ x.toInt) (h2 : x.toInt ≤ b) : Btw a x b := ⟨h1, h2⟩
/-- towards the fire -/
theorem x_near4 {d h : Int32} (h1 : Btw 0 d 300) (h2 : Btw 0 h 300) : Btw 0 (d + (h - d) / 4) 300 := by
  have e1 := x_bSub h2 h1 (by decide) (by decide)
  have e2 := x_bDiv (x := h - d) (y := 4) (a := -300) (b := 300) (x_bI (by have := h1.2; have := h2.1; omega) (by have := h1.1; have := h2.2; omega)) (by decide) (by decide)
  have e3 := x_tdivQ (h - d).toInt 4 (by decide)
  rw [show (4 : Int32).toInt = 4 from by decide] at e2
  rw [← e2, e1] at e3
  obtain ⟨p1, p2⟩ := h1
  obtain ⟨p3, p4⟩ := h2
  have e4 := x_bAdd (x := d) (y := (h - d) / 4) (a := 0) (b := 300) (c := -300) (d := 300) ⟨p1, p2⟩ (x_bI (by omega) (by omega)) (by decide) (by decide)
  refine x_bI ?_ ?_ <;> omega
theorem x_near16 {d : Int32} (h1 : Btw 0 d 300) : Btw 0 (d - (d - 20) / 16) 300 := by
  have e1 := x_bSub h1 (x_bLit 20 20 (by decide)) (by decide) (by decide)
  rw [show (20 : Int32).toInt = 20 from by decide] at e1
  have e2 := x_bDiv (x := d - 20) (y := 16) (a := -20) (b := 300) (x_bI (by have := h1.1; omega) (by have := h1.2; omega)) (by decide) (by decide)
  have e3 := x_tdivQ (d - 20).toInt 16 (by decide)
  rw [show (16 : Int32).toInt = 16 from by decide] at e2
  rw [← e2, e1] at e3
  obtain ⟨p1, p2⟩ := h1
  have e4 := x_bSub (x := d) (y := (d - 20) / 16) (a := 0) (b := 300) (c := -300) (d := 300) ⟨p1, p2⟩ (x_bI (by omega) (by omega)) (by decide) (by decide)
  refine x_bI ?_ ?_ <;> omega
def x_nd (down h kind : Int32) (f : Nat) (d : Int32) : Int32 := if kind = 0 then if nI f = down then d + (h - d) / 4 else d - (d - 20) / 16 else d + (h - d) / 4
theorem x_nd_ok {down h kind d : Int32} {f : Nat} (h1 : Btw 0 d 300) (h2 : Btw 0 h 300) : Btw 0 (x_nd down h kind f d) 300 := by
  rw [x_nd]
  by_cases c : kind = 0
  · rw [if_pos c]
    by_cases c2 : nI f = down
    · rw [if_pos c2]; exact x_near4 h1 h2
    · rw [if_neg c2]; exact x_near16 h1
  · rw [if_neg c]; exact x_near4 h1 h2
theorem x_core_ok {core radius s : Int32} (h1 : Btw 0 core 300) (h2 : Btw 1 radius 9) (h3 : Btw 0 s 1200) : Btw 0 (core + (s - 4 * core) / (8 * radius)) 300 ∧ (if (1 : Int32) < 8 * radius then 8 * radius else 1) = 8 * radius := by
  have m1 : (4 * core).toInt = 4 * core.toInt := by
    rw [Int32.toInt_mul]
    obtain ⟨p1, p2⟩ := h1
    rw [show (4 : Int32).toInt = 4 from by decide]
    exact Int.bmod_eq_of_le (by omega) (by omega)
  have m2 : (8 * radius).toInt = 8 * radius.toInt := by
    rw [Int32.toInt_mul]
    obtain ⟨p1, p2⟩ := h2
    rw [show (8 : Int32).toInt = 8 from by decide]
    exact Int.bmod_eq_of_le (by omega) (by omega)
  obtain ⟨p1, p2⟩ := h1
  obtain ⟨p3, p4⟩ := h2
  obtain ⟨p5, p6⟩ := h3
  have e1 := x_bSub (x := s) (y := 4 * core) (a := 0) (b := 1200) (c := 0) (d := 1200) ⟨p5, p6⟩ ⟨by omega, by omega⟩ (by decide) (by decide)
  have e2 := x_bDiv (x := s - 4 * core) (y := 8 * radius) (a := -1200) (b := 1200) ⟨by omega, by omega⟩ (by decide) (by omega)
  have e3 := x_tdivQ (s - 4 * core).toInt (8 * radius).toInt (by omega)
  rw [← e2, e1, m1, m2] at e3
  refine And.intro ?_ ?_
  · have e5 : -core.toInt ≤ ((s - 4 * core) / (8 * radius)).toInt ∧ ((s - 4 * core) / (8 * radius)).toInt ≤ 300 - core.toInt := by
      generalize ((s - 4 * core) / (8 * radius)).toInt = q at *
      generalize core.toInt = C at *
      generalize radius.toInt = R at *
      generalize s.toInt = S at *
      by_cases c : 0 ≤ S - 4 * C
      · obtain ⟨q1, q2, q3⟩ := e3.1 c
        have h7 : 8 * q ≤ 8 * R * q := Int.mul_le_mul_of_nonneg_right (by omega) q1
        omega
      · obtain ⟨q1, q2, q3⟩ := e3.2 (by omega)
        have h7 : 8 * (-q) ≤ 8 * R * (-q) := Int.mul_le_mul_of_nonneg_right (by omega) (by omega)
        rw [Int.mul_neg (8 * R)] at h7
        omega
    have e4 := x_bAdd (x := core) (y := (s - 4 * core) / (8 * radius)) (a := 0) (b := 300) (c := -300) (d := 300) ⟨p1, p2⟩ ⟨by omega, by omega⟩ (by decide) (by decide)
    exact ⟨by omega, by omega⟩
  · rw [if_pos]
    rw [Int32.lt_iff_toInt_lt, m2, show (1 : Int32).toInt = 1 from by decide]
    omega
theorem x_mx_le {c y : Int32} {a b : Int} (h1 : Btw a c b) (h2 : Btw a y b) : Btw a (if c < y then y else c) b := by
  by_cases h : c < y
  · rw [if_pos h]; exact h2
  · rw [if_neg h]; exact h1
theorem x_mx_assoc (a b c : Int32) : (if a < (if b < c then c else b) then (if b < c then c else b) else a) = (if (if a < b then b else a) < c then c else (if a < b then b else a)) := by
  by_cases h1 : b < c
  · rw [if_pos h1]
    by_cases h2 : a < b
    · rw [if_pos h2, if_pos h1, if_pos (Int32.lt_trans h2 h1)]
    · rw [if_neg h2]
  · rw [if_neg h1]
    by_cases h2 : a < b
    · rw [if_pos h2, if_neg h1]
    · rw [if_neg h2, if_neg]
      intro h3
      rw [Int32.lt_iff_toInt_lt] at h1 h2 h3
      omega
/-- the four faces after a second -/
theorem x_faces1 {down h kind : Int32} {degrees u : Nat → Int32} (hu : (if kind = 0 then x_nm (F_X1_fireFaces down degrees h) fun t => t else x_nm (F_X1_simmerFaces degrees h) fun t => t) = u) : ∀ f : Nat, f < 4 → u f = x_nd down h kind f (degrees f) := by
  subst hu
  intro f hf
  by_cases c : kind = 0
  · rw [if_pos c, x_nmE, F_X1_fireFaces, x_nmE]
    have e : ∀ (n k : Nat) (g : Nat → Int32), 4 - k < n → (∀ q : Nat, k ≤ q → g q = degrees q) → ∀ q : Nat, (q < k ∨ 4 ≤ q → F_X1_fireFaces_L2 down h n k g q = g q) ∧ (k ≤ q → q < 4 → F_X1_fireFaces_L2 down h n k g q = x_nd down h 0 q (degrees q)) := by
      intro n
      induction n with
      | zero => intro k g a; exact absurd a (Nat.not_lt_zero _)
      | succ n ih =>
        intro k g hn hg q
        rw [F_X1_fireFaces_L2]
        by_cases c4 : 4 ≤ k
        · rw [if_pos c4]
          exact ⟨fun _ => rfl, fun a b => absurd b (by omega)⟩
        · rw [if_neg c4, x_nmE]
          have e2 : (if nI k = down then x_nm (upd g k (g k + (h - g k) / 4)) fun t => t else x_nm (upd g k (g k - (g k - 20) / 16)) fun t => t) = upd g k (x_nd down h 0 k (degrees k)) := by
            rw [x_nmE, x_nmE, hg k (Nat.le_refl _), x_nd, if_pos rfl]
            by_cases c5 : nI k = down
            · rw [if_pos c5, if_pos c5]
            · rw [if_neg c5, if_neg c5]
          rw [e2]
          obtain ⟨j1, j2⟩ := ih (k + 1) (upd g k (x_nd down h 0 k (degrees k))) (by omega) (fun q hq => by rw [x_updN _ _ (by omega)]; exact hg q (by omega)) q
          refine ⟨fun a => ?_, fun a b => ?_⟩
          · rw [j1 (by omega), x_updN _ _ (by omega)]
          · by_cases c6 : q = k
            · subst c6
              rw [j1 (by omega), x_updS]
            · exact j2 (by omega) b
    rw [c]
    exact (e (4 + 1) 0 degrees (by omega) (fun _ _ => rfl) f).2 (by omega) hf
  · rw [if_neg c, x_nmE, F_X1_simmerFaces, x_nmE]
    have e : ∀ (n k : Nat) (g : Nat → Int32), 4 - k < n → (∀ q : Nat, k ≤ q → g q = degrees q) → ∀ q : Nat, (q < k ∨ 4 ≤ q → F_X1_simmerFaces_L2 h n k g q = g q) ∧ (k ≤ q → q < 4 → F_X1_simmerFaces_L2 h n k g q = x_nd down h kind q (degrees q)) := by
      intro n
      induction n with
      | zero => intro k g a; exact absurd a (Nat.not_lt_zero _)
      | succ n ih =>
        intro k g hn hg q
        rw [F_X1_simmerFaces_L2]
        by_cases c4 : 4 ≤ k
        · rw [if_pos c4]
          exact ⟨fun _ => rfl, fun a b => absurd b (by omega)⟩
        · have e2 : g k + (h - g k) / 4 = x_nd down h kind k (degrees k) := by
            rw [hg k (Nat.le_refl _), x_nd, if_neg c]
          rw [if_neg c4, x_nmE, e2]
          obtain ⟨j1, j2⟩ := ih (k + 1) (upd g k (x_nd down h kind k (degrees k))) (by omega) (fun q hq => by rw [x_updN _ _ (by omega)]; exact hg q (by omega)) q
          refine ⟨fun a => ?_, fun a b => ?_⟩
          · rw [j1 (by omega), x_updN _ _ (by omega)]
          · by_cases c6 : q = k
            · subst c6
              rw [j1 (by omega), x_updS]
            · exact j2 (by omega) b
    exact (e (4 + 1) 0 degrees (by omega) (fun _ _ => rfl) f).2 (by omega) hf
theorem x_warm1 {u : Nat → Int32} {core radius : Int32} (h1 : (if (1 : Int32) < 8 * radius then 8 * radius else 1) = 8 * radius) : F_X1_warmCore u core radius = core + ((((0 + u 0 + u 1) + u 2) + u 3) - 4 * core) / (8 * radius) := by
  rw [F_X1_warmCore, x_nmE, x_nmE, h1]
  rw [F_X1_warmCore_L4, if_neg (by decide), F_X1_warmCore_L4, if_neg (by decide), F_X1_warmCore_L4, if_neg (by decide), F_X1_warmCore_L4, if_neg (by decide), F_X1_warmCore_L4, if_pos (by decide)]
def x_hot (u : Nat → Int32) (core : Int32) : Int32 :=
  let a := if core < u 0 then u 0 else core
  let b := if a < u 1 then u 1 else a
  let c := if b < u 2 then u 2 else b
  if c < u 3 then u 3 else c
theorem x_hot1 {u : Nat → Int32} {core : Int32} : F_X1_boil_L7 u (4 + 1) core 0 = x_hot u core := by
  rw [F_X1_boil_L7, if_neg (by decide), x_nmE, F_X1_boil_L7, if_neg (by decide), x_nmE, F_X1_boil_L7, if_neg (by decide), x_nmE, F_X1_boil_L7, if_neg (by decide), x_nmE, F_X1_boil_L7, if_pos (by decide)]
  rfl
theorem x_sum_ok {u : Nat → Int32} (h : ∀ f : Nat, f < 4 → Btw 0 (u f) 300) : Btw 0 (((0 + u 0 + u 1) + u 2) + u 3) 1200 := by
  have a0 := h 0 (by decide)
  have a1 := h 1 (by decide)
  have a2 := h 2 (by decide)
  have a3 := h 3 (by decide)
  have e0 : (0 : Int32) + u 0 = u 0 := Int32.zero_add _
  rw [e0]
  have e1 := x_bAdd a0 a1 (by decide) (by decide)
  obtain ⟨p0, q0⟩ := a0
  obtain ⟨p1, q1⟩ := a1
  have b1 : Btw 0 (u 0 + u 1) 600 := ⟨by omega, by omega⟩
  have e2 := x_bAdd b1 a2 (by decide) (by decide)
  obtain ⟨p2, q2⟩ := a2
  have b2 : Btw 0 (u 0 + u 1 + u 2) 900 := ⟨by omega, by omega⟩
  have e3 := x_bAdd b2 a3 (by decide) (by decide)
  obtain ⟨p3, q3⟩ := a3
  exact ⟨by omega, by omega⟩
theorem x_hot_ok {u : Nat → Int32} {core : Int32} (h : ∀ f : Nat, f < 4 → Btw 0 (u f) 300) (hc : Btw 0 core 300) : Btw 0 (x_hot u core) 300 :=
  x_mx_le (x_mx_le (x_mx_le (x_mx_le hc (h 0 (by decide))) (h 1 (by decide))) (h 2 (by decide))) (h 3 (by decide))
/-- the reference's hottest: from the first face on -/
theorem x_hot5 (u : Nat → Int32) (core : Int32) {m3 : Int32} (hm : m3 = (if u 3 ≤ (if u 2 ≤ (if u 1 ≤ u 0 then u 0 else u 1) then (if u 1 ≤ u 0 then u 0 else u 1) else u 2) then (if u 2 ≤ (if u 1 ≤ u 0 then u 0 else u 1) then (if u 1 ≤ u 0 then u 0 else u 1) else u 2) else u 3)) : (if core ≤ m3 then m3 else core) = x_hot u core := by
  rw [x_maxc, hm]
  rw [x_maxd (u 0) (u 1), x_maxd _ (u 2), x_maxd _ (u 3)]
  rw [x_mx_assoc, x_mx_assoc, x_mx_assoc]
  rfl
theorem x_boil1 {u : Nat → Int32} {core water pricked : Int32} (hu : ∀ f : Nat, f < 4 → Btw 0 (u f) 300) (hc : Btw 0 core 300) (hw : Btw 0 water 999) (hp : Btw 0 pricked 99) {s w : Int32} (hs : s = if x_hot u core ≤ 100 then 0 else if water ≤ 0 then 0 else x_hot u core - 100) (hw2 : w = if water ≤ s / 20 + (if core ≤ 60 then 0 else pricked / 3) then 0 else water - (s / 20 + (if core ≤ 60 then 0 else pricked / 3))) : F_X1_boil u core water pricked = (w, s) ∧ Btw 0 s 200 ∧ Btw 0 w 999 := by
  have hh := x_hot_ok hu hc
  have k20 : (20 : Int32).toInt = 20 := by decide
  have k3 : (3 : Int32).toInt = 3 := by decide
  have k100 : (100 : Int32).toInt = 100 := by decide
  have e0 : (if water ≤ 0 then 0 else if (0 : Int32) < x_hot u core - 100 then x_hot u core - 100 else 0) = s := by
    rw [hs]
    have e1 := x_bSub hh (x_bLit 100 100 k100) (by decide) (by decide)
    by_cases c1 : x_hot u core ≤ 100
    · rw [if_pos c1]
      have c2 : ¬ (0 : Int32) < x_hot u core - 100 := by
        rw [Int32.lt_iff_toInt_lt, e1, k100, Int32.toInt_zero]
        rw [Int32.le_iff_toInt_le, k100] at c1
        omega
      rw [if_neg c2]
      split <;> rfl
    · rw [if_neg c1]
      have c2 : (0 : Int32) < x_hot u core - 100 := by
        rw [Int32.lt_iff_toInt_lt, e1, k100, Int32.toInt_zero]
        rw [Int32.le_iff_toInt_le, k100] at c1
        omega
      rw [if_pos c2]
  have hsb : Btw 0 s 200 := by
    rw [hs]
    by_cases c1 : x_hot u core ≤ 100
    · rw [if_pos c1]; exact ⟨by decide, by decide⟩
    · rw [if_neg c1]
      by_cases c2 : water ≤ 0
      · rw [if_pos c2]; exact ⟨by decide, by decide⟩
      · rw [if_neg c2]
        have e1 := x_bSub hh (x_bLit 100 100 k100) (by decide) (by decide)
        rw [Int32.le_iff_toInt_le, k100] at c1
        obtain ⟨p1, p2⟩ := hh
        exact ⟨by omega, by omega⟩
  have hl : Btw 0 (if core ≤ 60 then 0 else pricked / 3) 99 := by
    by_cases c1 : core ≤ 60
    · rw [if_pos c1]; exact ⟨by decide, by decide⟩
    · rw [if_neg c1]
      have e1 := x_bDiv (x := pricked) (y := 3) hp (by decide) (by decide)
      have e2 := (x_tdivQ pricked.toInt 3 (by decide)).1 hp.1
      rw [k3] at e1
      rw [← e1] at e2
      obtain ⟨p1, p2⟩ := hp
      exact ⟨by omega, by omega⟩
  have hd : Btw 0 (s / 20) 10 := by
    have e1 := x_bDiv (x := s) (y := 20) hsb (by decide) (by decide)
    have e2 := (x_tdivQ s.toInt 20 (by decide)).1 hsb.1
    rw [k20] at e1
    rw [← e1] at e2
    obtain ⟨p1, p2⟩ := hsb
    exact ⟨by omega, by omega⟩
  have hb : Btw 0 (s / 20 + (if core ≤ 60 then 0 else pricked / 3)) 109 := by
    have e1 := x_bAdd hd hl (by decide) (by decide)
    obtain ⟨p1, p2⟩ := hd
    obtain ⟨p3, p4⟩ := hl
    exact ⟨by omega, by omega⟩
  rw [F_X1_boil, x_nmE, x_hot1]
  repeat rw [x_nmE]
  rw [e0]
  generalize s / 20 + (if core ≤ 60 then 0 else pricked / 3) = L at hw2 hb ⊢
  have e3 := x_bSub hw hb (by decide) (by decide)
  have e4 : (if (0 : Int32) < water - L then water - L else 0) = w ∧ Btw 0 w 999 := by
    rw [hw2]
    by_cases c1 : water ≤ L
    · rw [if_pos c1, if_neg]
      · exact ⟨rfl, by decide, by decide⟩
      · rw [Int32.lt_iff_toInt_lt, e3, Int32.toInt_zero]
        rw [Int32.le_iff_toInt_le] at c1
        omega
    · rw [if_neg c1, if_pos]
      · rw [Int32.le_iff_toInt_le] at c1
        obtain ⟨p1, p2⟩ := hw
        obtain ⟨p3, p4⟩ := hb
        exact ⟨rfl, by omega, by omega⟩
      · rw [Int32.lt_iff_toInt_lt, e3, Int32.toInt_zero]
        rw [Int32.le_iff_toInt_le] at c1
        omega
  refine ⟨?_, hsb, e4.2⟩
  rw [e4.1]
/-- the reference's first loop: faces, their sum, the hottest -/
theorem x_faces5 {is row : Nat → Int32} {r : Nat} {h kind : Int32} {o : Int32 × Int32 × (Nat → Int32)} (ho : F_X5_second_L15 r h kind (4 + 1) 0 0 0 row = o) : let u : Nat → Int32 := fun f => x_nd (row (20 * r + 16)) h kind f (row (20 * r + f))
    o.1 = (0 + u 0 + u 1) + u 2 + u 3 ∧ (∀ core : Int32, (if core ≤ o.2.1 then o.2.1 else core) = x_hot u core) ∧ (∀ f : Nat, f < 4 → o.2.2 (20 * r + f) = u f) ∧ ∀ q : Nat, (q < 20 * r ∨ 20 * r + 4 ≤ q) → o.2.2 q = row q := by
  intro u
  have stp : ∀ (n : Nat) (s m : Int32) (k : Nat) (R : Nat → Int32), k < 4 → R (20 * r + 16) = row (20 * r + 16) → R (20 * r + k) = row (20 * r + k) → F_X5_second_L15 r h kind (n + 1) s m k R = F_X5_second_L15 r h kind n (s + u k) (if k = 0 then u k else if u k ≤ m then m else u k) (k + 1) (upd R (20 * r + k) (u k)) := by
    intro n s m k R hk h16 hk2
    have e : (if kind = 0 then if (nI k) = (R ((20 * r) + 16)) then (R ((20 * r) + k)) + ((h - (R ((20 * r) + k))) / 4) else (R ((20 * r) + k)) - (((R ((20 * r) + k)) - 20) / 16) else (R ((20 * r) + k)) + ((h - (R ((20 * r) + k))) / 4)) = u k := by
      rw [h16, hk2]
      rfl
    rw [F_X5_second_L15, if_neg (by omega), x_nmE, e, x_nmE, x_nmE, x_updS]
  have a1 := stp 4 0 0 0 row (by decide) rfl rfl
  have a2 := stp 3 (0 + u 0) (u 0) 1 (upd row (20 * r + 0) (u 0)) (by decide) (x_updN _ _ (by omega)) (x_updN _ _ (by omega))
  have a3 := stp 2 (0 + u 0 + u 1) (if u 1 ≤ u 0 then u 0 else u 1) 2 (upd (upd row (20 * r + 0) (u 0)) (20 * r + 1) (u 1)) (by decide) (by rw [x_updN _ _ (by omega), x_updN _ _ (by omega)]) (by rw [x_updN _ _ (by omega), x_updN _ _ (by omega)])
  have a4 := stp 1 (0 + u 0 + u 1 + u 2) (if u 2 ≤ (if u 1 ≤ u 0 then u 0 else u 1) then (if u 1 ≤ u 0 then u 0 else u 1) else u 2) 3 (upd (upd (upd row (20 * r + 0) (u 0)) (20 * r + 1) (u 1)) (20 * r + 2) (u 2)) (by decide) (by rw [x_updN _ _ (by omega), x_updN _ _ (by omega), x_updN _ _ (by omega)]) (by rw [x_updN _ _ (by omega), x_updN _ _ (by omega), x_updN _ _ (by omega)])
  rw [if_pos rfl] at a1
  rw [if_neg (show ¬ (1 : Nat) = 0 by decide)] at a2
  rw [if_neg (show ¬ (2 : Nat) = 0 by decide)] at a3
  rw [if_neg (show ¬ (3 : Nat) = 0 by decide)] at a4
  have a5 : ∀ (s m : Int32) (R : Nat → Int32), F_X5_second_L15 r h kind 1 s m (3 + 1) R = (s, m, R) := fun s m R => by rw [F_X5_second_L15, if_pos (by decide)]
  rw [a1, a2, a3, a4, a5] at ho
  subst ho
  refine ⟨rfl, fun core => x_hot5 u core rfl, fun f hf => ?_, fun q hq => ?_⟩
  · have e : f = 0 ∨ f = 1 ∨ f = 2 ∨ f = 3 := by omega
    dsimp only
    rcases e with rfl | rfl | rfl | rfl
    · rw [x_updN _ _ (by omega), x_updN _ _ (by omega), x_updN _ _ (by omega), x_updS]
    · rw [x_updN _ _ (by omega), x_updN _ _ (by omega), x_updS]
    · rw [x_updN _ _ (by omega), x_updS]
    · rw [x_updS]
  · dsimp only
    rw [x_updN _ _ (by omega), x_updN _ _ (by omega), x_updN _ _ (by omega), x_updN _ _ (by omega)]
/-- browner: both sides -/
def x_br (d b : Int32) : Int32 := if b + (if (d - 120) / 10 ≤ 0 then 0 else (d - 120) / 10) ≤ 999 then b + (if (d - 120) / 10 ≤ 0 then 0 else (d - 120) / 10) else 999
theorem x_br_ok {d b : Int32} (h1 : Btw 0 d 300) (h2 : Btw 0 b 999) : Btw 0 (x_br d b) 999 := by
  have k999 : (999 : Int32).toInt = 999 := by decide
  have e1 := x_bSub h1 (x_bLit 120 120 (by decide)) (by decide) (by decide)
  rw [show (120 : Int32).toInt = 120 from by decide] at e1
  have e2 := x_bDiv (x := d - 120) (y := 10) (a := -120) (b := 300) (x_bI (by have := h1.1; omega) (by have := h1.2; omega)) (by decide) (by decide)
  have e3 := x_tdivQ (d - 120).toInt 10 (by decide)
  rw [show (10 : Int32).toInt = 10 from by decide] at e2
  rw [← e2, e1] at e3
  have e4 : Btw 0 (if (d - 120) / 10 ≤ 0 then 0 else (d - 120) / 10) 300 := by
    by_cases c : (d - 120) / 10 ≤ 0
    · rw [if_pos c]; exact ⟨by decide, by decide⟩
    · rw [if_neg c]
      rw [Int32.le_iff_toInt_le, Int32.toInt_zero] at c
      obtain ⟨p1, p2⟩ := h1
      exact ⟨by omega, by omega⟩
  rw [x_br]
  generalize (if (d - 120) / 10 ≤ 0 then 0 else (d - 120) / 10) = y at e4 ⊢
  have e5 := x_bAdd h2 e4 (by decide) (by decide)
  obtain ⟨p1, p2⟩ := h2
  obtain ⟨p3, p4⟩ := e4
  by_cases c : b + y ≤ 999
  · rw [if_pos c]
    rw [Int32.le_iff_toInt_le, k999] at c
    exact ⟨by omega, by omega⟩
  · rw [if_neg c]; exact ⟨by decide, by decide⟩
theorem x_brown1 {u brown : Nat → Int32} : ∀ f : Nat, f < 4 → F_X1_browner u brown f = x_br (u f) (brown f) := by
  intro f hf
  rw [F_X1_browner, x_nmE]
  have e : ∀ (n k : Nat) (g : Nat → Int32), 4 - k < n → (∀ q : Nat, k ≤ q → g q = brown q) → ∀ q : Nat, (q < k ∨ 4 ≤ q → F_X1_browner_L2 u n k g q = g q) ∧ (k ≤ q → q < 4 → F_X1_browner_L2 u n k g q = x_br (u q) (brown q)) := by
    intro n
    induction n with
    | zero => intro k g a; exact absurd a (Nat.not_lt_zero _)
    | succ n ih =>
      intro k g hn hg q
      rw [F_X1_browner_L2]
      by_cases c4 : 4 ≤ k
      · rw [if_pos c4]
        exact ⟨fun _ => rfl, fun a b => absurd b (by omega)⟩
      · have e2 : (if (g k + (if (0 : Int32) < (u k - 120) / 10 then (u k - 120) / 10 else 0)) < (999 : Int32) then (g k + (if (0 : Int32) < (u k - 120) / 10 then (u k - 120) / 10 else 0)) else (999 : Int32)) = x_br (u k) (brown k) := by
          rw [hg k (Nat.le_refl _), x_br, x_minc 999, x_maxd 0]
        rw [if_neg c4, x_nmE, x_nmE, e2, x_nmE]
        obtain ⟨j1, j2⟩ := ih (k + 1) (upd g k (x_br (u k) (brown k))) (by omega) (fun q hq => by rw [x_updN _ _ (by omega)]; exact hg q (by omega)) q
        refine ⟨fun a => ?_, fun a b => ?_⟩
        · rw [j1 (by omega), x_updN _ _ (by omega)]
        · by_cases c6 : q = k
          · subst c6
            rw [j1 (by omega), x_updS]
          · exact j2 (by omega) b
  exact (e (4 + 1) 0 brown (by omega) (fun _ _ => rfl) f).2 (by omega) hf
theorem x_brown5 {row : Nat → Int32} {r : Nat} : (∀ f : Nat, f < 4 → F_X5_second_L339 r (4 + 1) 0 row (20 * r + 5 + f) = x_br (row (20 * r + f)) (row (20 * r + 5 + f))) ∧ ∀ q : Nat, (q < 20 * r + 5 ∨ 20 * r + 9 ≤ q) → F_X5_second_L339 r (4 + 1) 0 row q = row q := by
  have e : ∀ (n k : Nat) (g : Nat → Int32), 4 - k < n → (∀ q : Nat, (q < 20 * r + 5 ∨ 20 * r + 5 + k ≤ q) → g q = row q) → ∀ q : Nat, (q < 20 * r + 5 + k ∨ 20 * r + 9 ≤ q → F_X5_second_L339 r n k g q = g q) ∧ (20 * r + 5 + k ≤ q → q < 20 * r + 9 → F_X5_second_L339 r n k g q = x_br (row (q - 5)) (row q)) := by
    intro n
    induction n with
    | zero => intro k g a; exact absurd a (Nat.not_lt_zero _)
    | succ n ih =>
      intro k g hn hg q
      rw [F_X5_second_L339]
      by_cases c4 : 4 ≤ k
      · rw [if_pos c4]
        exact ⟨fun _ => rfl, fun a b => absurd b (by omega)⟩
      · have e2 : (if (g (20 * r + 5 + k) + (if (g (20 * r + k) - 120) / 10 ≤ 0 then 0 else (g (20 * r + k) - 120) / 10)) ≤ 999 then (g (20 * r + 5 + k) + (if (g (20 * r + k) - 120) / 10 ≤ 0 then 0 else (g (20 * r + k) - 120) / 10)) else 999) = x_br (row (20 * r + k)) (row (20 * r + 5 + k)) := by
          rw [hg (20 * r + 5 + k) (by omega), hg (20 * r + k) (by omega), x_br]
        rw [if_neg c4, x_nmE, x_nmE, e2, x_nmE]
        obtain ⟨j1, j2⟩ := ih (k + 1) (upd g (20 * r + 5 + k) (x_br (row (20 * r + k)) (row (20 * r + 5 + k)))) (by omega) (fun q hq => by rw [x_updN _ _ (by omega)]; exact hg q (by omega)) q
        refine ⟨fun a => ?_, fun a b => ?_⟩
        · rw [j1 (by omega), x_updN _ _ (by omega)]
        · by_cases c6 : q = 20 * r + 5 + k
          · subst c6
            rw [j1 (by omega), x_updS, show 20 * r + 5 + k - 5 = 20 * r + k by omega]
          · exact j2 (by omega) b
  refine ⟨fun f hf => ?_, fun q hq => ?_⟩
  · have h := (e (4 + 1) 0 row (by omega) (fun _ _ => rfl) (20 * r + 5 + f)).2 (by omega) (by omega)
    rw [show 20 * r + 5 + f - 5 = 20 * r + f by omega] at h
    exact h
  · exact (e (4 + 1) 0 row (by omega) (fun _ _ => rfl) q).1 (by omega)
theorem x_press5 {core pricked gone steam filling : Int32} {row is : Nat → Int32} {r : Nat} (hg : gone = 0 ∨ gone = 1 ∨ gone = 2) (h4 : row (20 * r + 4) = core) (h10 : row (20 * r + 10) = pricked) (h13 : row (20 * r + 13) = gone) (h15 : row (20 * r + 15) = steam) (hf : is 2 = filling) : F_X5_press is row r = F_X1_pressIn core pricked gone steam filling := by
  simp only [F_X5_press, F_X1_pressIn, x_nm]
  rw [h13, h4, h15, h10, hf, x_maxd 0, x_maxc 0]
  rcases hg with rfl | rfl | rfl
  · rw [if_pos (by decide), if_pos rfl]
  · rw [if_neg (by decide), if_neg (by decide)]
  · rw [if_neg (by decide), if_neg (by decide)]
theorem x_holds5 {u row is : Nat → Int32} {r f : Nat} {thin skin thinBy : Int32} (hu : row (20 * r + f) = u f) (h11 : row (20 * r + 11) = thin) (hs : is 1 = skin) (ht : is 5 = thinBy) (hf : f < 4) : F_X5_holdsAt is row r f = F_X1_strengthAt u thin f skin thinBy := by
  have h0 : ¬ nI f < 0 := by
    have e : f = 0 ∨ f = 1 ∨ f = 2 ∨ f = 3 := by omega
    rcases e with rfl | rfl | rfl | rfl <;> decide
  have h00 : ¬ 4 ≤ f := by omega
  simp only [F_X5_holdsAt, F_X1_strengthAt, x_nm]
  simp only [if_neg h0, if_neg h00, hu, h11, hs, ht, x_maxd 0, x_maxc 1]
  all_goals rfl
/-- where it goes: both sides; the faces from k on -/
theorem x_goes {u row is : Nat → Int32} {r : Nat} {thin splitAt radius skin ends thinBy bentFace bentBy z : Int32} (hu : ∀ f : Nat, f < 4 → row (20 * r + f) = u f) (h11 : row (20 * r + 11) = thin) (e0 : is 0 = radius) (e1 : is 1 = skin) (e4 : is 4 = ends) (e5 : is 5 = thinBy) (e7 : is 7 = bentFace) (e8 : is 8 = bentBy) :
    row (20 * r + 13) = 0 → row (20 * r + 14) = splitAt → ∀ (n k : Nat), 4 - k < n →
      (F_X1_goIfPulled_L2 u thin 0 splitAt radius skin ends thinBy bentFace bentBy z n k = (0, splitAt) ∧ F_X5_second_L459 is r z n k row = row ∧ (z * radius) / 2 ≤ ends) ∨
      (F_X1_goIfPulled_L2 u thin 0 splitAt radius skin ends thinBy bentFace bentBy z n k = (2, splitAt) ∧ F_X5_second_L459 is r z n k row = row ∧ ¬ (z * radius) / 2 ≤ ends) ∨
      ∃ f : Nat, f < 4 ∧ F_X1_goIfPulled_L2 u thin 0 splitAt radius skin ends thinBy bentFace bentBy z n k = (1, nI f) ∧ F_X5_second_L459 is r z n k row = upd (upd row (20 * r + 13) 1) (20 * r + 14) (nI f) := by
  intro h13 h14 n
  induction n with
  | zero => intro k a; exact absurd a (Nat.not_lt_zero _)
  | succ n ih =>
    intro k hn
    rw [F_X1_goIfPulled_L2, F_X5_second_L459]
    by_cases c4 : 4 ≤ k
    · rw [if_pos c4, if_pos c4, F_X1_pullAlong, x_nmE, x_nmE]
      by_cases c : (z * radius) / 2 ≤ ends
      · rw [if_pos c]; exact Or.inl ⟨rfl, rfl, c⟩
      · rw [if_neg c]; exact Or.inr (Or.inl ⟨rfl, rfl, c⟩)
    · rw [if_neg c4, if_neg c4, h13, if_pos rfl]
      have p1 : F_X5_pulls is z (nI k) = F_X1_pullRound (nI k) radius bentFace bentBy z := by
        simp only [F_X5_pulls, F_X1_pullRound, x_nm]
        rw [e0, e7, e8]
      rw [p1, x_holds5 (hu k (by omega)) h11 e1 e5 (by omega)]
      repeat rw [x_nmE]
      by_cases c : F_X1_pullRound (nI k) radius bentFace bentBy z ≤ F_X1_strengthAt u thin k skin thinBy
      · rw [if_pos c, if_pos c]
        exact ih (k + 1) (by omega)
      · rw [if_neg c, if_neg c]
        refine Or.inr (Or.inr ⟨k, by omega, rfl, ?_⟩)
        have q : ∀ (n k2 : Nat) (R : Nat → Int32), ¬ R (20 * r + 13) = 0 → F_X5_second_L459 is r z n k2 R = R := by
          intro n
          induction n with
          | zero => intro k2 R _; rfl
          | succ n ih2 =>
            intro k2 R hR
            rw [F_X5_second_L459]
            by_cases c5 : 4 ≤ k2
            · rw [if_pos c5]
            · rw [if_neg c5, if_neg hR, x_nmE]
              exact ih2 _ _ hR
        repeat rw [x_nmE]
        exact q _ _ _ (by rw [x_updN _ _ (by omega), x_updS]; decide)
theorem x_gone5 {is : Nat → Int32} {r : Nat} {z : Int32} : ∀ (n k2 : Nat) (R : Nat → Int32), ¬ R (20 * r + 13) = 0 → F_X5_second_L459 is r z n k2 R = R := by
  intro n
  induction n with
  | zero => intro k2 R _; rfl
  | succ n ih2 =>
    intro k2 R hR
    rw [F_X5_second_L459]
    by_cases c5 : 4 ≤ k2
    · rw [if_pos c5]
    · rw [if_neg c5, if_neg hR, x_nmE]
      exact ih2 _ _ hR
