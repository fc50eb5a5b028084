/-! the steps of the law: even -/
def x_sN (h : Nat → Nat) : Nat → Nat → Nat → Nat
  | 0, _, _ => 0
  | r + 1, code, i => h (x_cellsN (4 * (code % 24) + i)) + x_sN h r (code / 24) i
theorem x_sNS (h : Nat → Nat) (r code i : Nat) : x_sN h (r + 1) code i = h (x_cellsN (4 * (code % 24) + i)) + x_sN h r (code / 24) i := rfl
def x_lN (h : Nat → Nat) (r code : Nat) : Nat := min (min (x_sN h r code 0) (x_sN h r code 1)) (min (x_sN h r code 2) (x_sN h r code 3))
theorem x_lN_le (h : Nat → Nat) (r code i : Nat) (hi : i < 4) : x_lN h r code ≤ x_sN h r code i := by
  have e : i = 0 ∨ i = 1 ∨ i = 2 ∨ i = 3 := by omega
  rw [x_lN]
  rcases e with rfl | rfl | rfl | rfl <;> omega
theorem x_lN_eq (h : Nat → Nat) (r code : Nat) : ∃ i : Nat, i < 4 ∧ x_lN h r code = x_sN h r code i := by
  rw [x_lN]
  by_cases a : x_sN h r code 0 ≤ x_sN h r code 1
  · by_cases b : x_sN h r code 2 ≤ x_sN h r code 3
    · by_cases c : x_sN h r code 0 ≤ x_sN h r code 2
      · exact ⟨0, by omega, by omega⟩
      · exact ⟨2, by omega, by omega⟩
    · by_cases c : x_sN h r code 0 ≤ x_sN h r code 3
      · exact ⟨0, by omega, by omega⟩
      · exact ⟨3, by omega, by omega⟩
  · by_cases b : x_sN h r code 2 ≤ x_sN h r code 3
    · by_cases c : x_sN h r code 1 ≤ x_sN h r code 2
      · exact ⟨1, by omega, by omega⟩
      · exact ⟨2, by omega, by omega⟩
    · by_cases c : x_sN h r code 1 ≤ x_sN h r code 3
      · exact ⟨1, by omega, by omega⟩
      · exact ⟨3, by omega, by omega⟩
theorem x_orperm : ∀ a : Fin 24, ∀ b : Fin 24, ∃ c : Fin 24, ∀ i : Fin 4, x_cellsN (4 * c.val + x_cellsN (4 * b.val + i.val)) = x_cellsN (4 * a.val + i.val) := by decide +kernel
theorem x_surj : ∀ b : Fin 24, ∀ j : Fin 4, ∃ i : Fin 4, x_cellsN (4 * b.val + i.val) = j.val := by decide +kernel
theorem x_cell4 : ∀ b : Fin 24, ∀ i : Fin 4, x_cellsN (4 * b.val + i.val) < 4 := by decide +kernel
theorem x_id4 : ∀ j : Fin 4, x_cellsN j.val = j.val := by decide +kernel
theorem x_sym (h : Nat → Nat) : ∀ (r code : Nat), code < 24 ^ (r + 1) → ∃ b code' : Nat, b < 24 ∧ code' < 24 ^ r ∧ ∀ i : Nat, i < 4 → x_sN h (r + 1) code i = x_sN h (r + 1) code' (x_cellsN (4 * b + i)) := by
  intro r
  induction r with
  | zero =>
    intro code hc
    refine ⟨code, 0, by omega, by decide, fun i hi => ?_⟩
    rw [x_sNS, x_sNS, Nat.mod_eq_of_lt (by omega), Nat.zero_mod, Nat.mul_zero, Nat.zero_add]
    have e := x_cell4 ⟨code, by omega⟩ ⟨i, hi⟩
    rw [x_id4 ⟨_, e⟩]
    rfl
  | succ r ih =>
    intro code hc
    have hd : code / 24 < 24 ^ (r + 1) := by
      rw [Nat.pow_succ] at hc
      exact Nat.div_lt_of_lt_mul (by rw [Nat.mul_comm]; exact hc)
    obtain ⟨b, c1, hb, hc1, h1⟩ := ih (code / 24) hd
    obtain ⟨c, hp⟩ := x_orperm ⟨code % 24, Nat.mod_lt _ (by decide)⟩ ⟨b, hb⟩
    refine ⟨b, 24 * c1 + c.val, hb, ?_, fun i hi => ?_⟩
    · rw [Nat.pow_succ]
      have := c.isLt
      omega
    · have m1 : (24 * c1 + c.val) % 24 = c.val := by have := c.isLt; omega
      have m2 : (24 * c1 + c.val) / 24 = c1 := by have := c.isLt; omega
      have e := hp ⟨i, hi⟩
      dsimp only at e
      rw [x_sNS, x_sNS h (r + 1) (24 * c1 + c.val), m1, m2, e, h1 i hi]
theorem x_symL (h : Nat → Nat) (r code : Nat) (hc : code < 24 ^ (r + 1)) : ∃ code' : Nat, code' < 24 ^ r ∧ x_lN h (r + 1) code' = x_lN h (r + 1) code := by
  obtain ⟨b, code', hb, hc', hs⟩ := x_sym h r code hc
  refine ⟨code', hc', Nat.le_antisymm ?_ ?_⟩
  · obtain ⟨i, hi, e⟩ := x_lN_eq h (r + 1) code
    rw [e, hs i hi]
    exact x_lN_le h (r + 1) code' _ (x_cell4 ⟨b, hb⟩ ⟨i, hi⟩)
  · obtain ⟨j, hj, e⟩ := x_lN_eq h (r + 1) code'
    obtain ⟨i, hi⟩ := x_surj ⟨b, hb⟩ ⟨j, hj⟩
    dsimp only at hi
    rw [e, ← hi, ← hs i.val i.isLt]
    exact x_lN_le h (r + 1) code _ i.isLt
theorem x_sN_le {h : Nat → Nat} (hh : ∀ q : Nat, q < 4 → h q ≤ 99) : ∀ (r code i : Nat), i < 4 → x_sN h r code i ≤ 99 * r := by
  intro r
  induction r with
  | zero => intro code i _; exact Nat.le_refl _
  | succ r ih =>
    intro code i hi
    rw [x_sNS]
    have h1 := ih (code / 24) i hi
    have h2 := hh _ (x_cell4 ⟨code % 24, Nat.mod_lt _ (by decide)⟩ ⟨i, hi⟩)
    dsimp only at h2
    omega
/-- the class's heat at a place of the orders -/
theorem x_heatAt4 (f : Nat → Int32) {a : Nat} (h : a < 96) : F_X4_heatAt f a = f (x_cellsN a) := by
  have h2 := (x_cells_nat a h).2
  have h1 : F_X4_outside (nI a) 0 (nI 95) = 0 := (x_outside_iff _ _ _).mpr ⟨(nI_leI (a := 0) (by omega) (by omega)).mpr (Nat.zero_le _), (nI_leI (by omega) (by omega)).mpr (by omega)⟩
  have h3 : F_X4_outside (nI (x_cellsN a)) 0 3 = 0 := (x_outside_iff _ _ _).mpr ⟨(nI_leI (a := 0) (by omega) (by omega)).mpr (Nat.zero_le _), (nI_leI (b := 3) (by omega) (by omega)).mpr (by omega)⟩
  rw [F_X4_heatAt, h1, x_nmE, if_pos rfl, h3, x_nmE, if_pos rfl, x_nmE]
/-- the class's least -/
theorem x_l23 {heats : Nat → Int32} {h : Nat → Nat} (hh : ∀ q : Nat, q < 4 → heats q = nI (h q) ∧ h q ≤ 99) {r i : Nat} (hi : i < 4) : ∀ (n a code k : Nat), r - k < n → F_X4_leastHeat_L23 heats r i n (nI a) code k = nI (a + x_sN h (r - k) code i) := by
  intro n
  induction n with
  | zero => intro a code k q; exact absurd q (Nat.not_lt_zero _)
  | succ n ih =>
    intro a code k q
    rw [F_X4_leastHeat_L23]
    by_cases c : r ≤ k
    · rw [if_pos c, show r - k = 0 by omega]; rfl
    · have hx := x_cell4 ⟨code % 24, Nat.mod_lt _ (by decide)⟩ ⟨i, hi⟩
      dsimp only at hx
      rw [if_neg c, show code % 24 * 4 + i = 4 * (code % 24) + i by omega, x_heatAt4 heats (show 4 * (code % 24) + i < 96 by omega), x_nmE, (hh _ hx).1, nI_add, ih _ _ _ (by omega), show r - k = (r - (k + 1)) + 1 by omega, x_sNS, Nat.add_assoc]
theorem x_minN {a b : Nat} (ha : a < 2 ^ 31) (hb : b < 2 ^ 31) : (if nI b < nI a then nI b else nI a) = nI (min a b) := by
  by_cases c : b < a
  · rw [if_pos (nI_lt c (by omega)), Nat.min_eq_right (by omega)]
  · rw [if_neg (by rw [nI_ltI hb ha]; exact c), Nat.min_eq_left (by omega)]
theorem x_least4 {heats : Nat → Int32} {h : Nat → Nat} (hh : ∀ q : Nat, q < 4 → heats q = nI (h q) ∧ h q ≤ 99) {r code : Nat} (hr : r ≤ 3) : F_X4_leastHeat heats code r = nI (x_lN h r code) := by
  have s : ∀ i : Nat, i < 4 → F_X4_leastHeat_L23 heats r i (r + 1) 0 code 0 = nI (x_sN h r code i) := by
    intro i hi
    have e := x_l23 hh (r := r) hi (r + 1) 0 code 0 (by omega)
    rw [nI_0, Nat.zero_add, Nat.sub_zero] at e
    exact e
  have b : ∀ i : Nat, i < 4 → x_sN h r code i ≤ 99 * r := fun i hi => x_sN_le (fun q hq => (hh q hq).2) r code i hi
  have b0 := b 0 (by decide)
  have b1 := b 1 (by decide)
  have b2 := b 2 (by decide)
  have b3 := b 3 (by decide)
  rw [F_X4_leastHeat, x_nmE]
  rw [F_X4_leastHeat_L8, if_neg (by decide), s 0 (by decide), x_nmE, x_nmE, x_minN (by omega) (by omega)]
  rw [F_X4_leastHeat_L8, if_neg (by decide), s 1 (by decide), x_nmE, x_nmE, x_minN (by omega) (by omega)]
  rw [F_X4_leastHeat_L8, if_neg (by decide), s 2 (by decide), x_nmE, x_nmE, x_minN (by omega) (by omega)]
  rw [F_X4_leastHeat_L8, if_neg (by decide), s 3 (by decide), x_nmE, x_nmE, x_minN (by omega) (by omega)]
  rw [F_X4_leastHeat_L8, if_pos (by decide), x_lN]
  congr 1
  omega
/-- the reference's least -/
theorem x_l103 {heats has : Nat → Int32} {code : Nat} : ∀ i : Nat, i < 4 → F_X5_even_L103 heats code (4 + 1) 0 has i = has i + heats (x_cellsN (4 * (code % 24) + i)) := by
  have e : ∀ (n k : Nat) (g : Nat → Int32), 4 - k < n → (∀ q : Nat, k ≤ q → g q = has q) → ∀ q : Nat, (q < k → F_X5_even_L103 heats code n k g q = g q) ∧ (k ≤ q → q < 4 → F_X5_even_L103 heats code n k g q = has q + heats (x_cellsN (4 * (code % 24) + q))) := by
    intro n
    induction n with
    | zero => intro k g a; exact absurd a (Nat.not_lt_zero _)
    | succ n ih =>
      intro k g hn hg q
      rw [F_X5_even_L103]
      by_cases c4 : 4 ≤ k
      · rw [if_pos c4]
        exact ⟨fun _ => rfl, fun a b => absurd b (by omega)⟩
      · rw [if_neg c4, x_nmE, hg k (Nat.le_refl _)]
        obtain ⟨j1, j2⟩ := ih (k + 1) (upd g k (has k + heats (x_cellsN (4 * (code % 24) + k)))) (by omega) (fun q hq => by rw [x_updN _ _ (by omega)]; exact hg q (by omega)) q
        refine ⟨fun a => ?_, fun a b => ?_⟩
        · rw [j1 (by omega), x_updN _ _ (by omega)]
        · by_cases c6 : q = k
          · subst c6
            rw [j1 (by omega), x_updS]
          · exact j2 (by omega) b
  intro i hi
  exact (e (4 + 1) 0 has (by omega) (fun _ _ => rfl) i).2 (by omega) hi
theorem x_l94 {heats : Nat → Int32} {h : Nat → Nat} (hh : ∀ q : Nat, q < 4 → heats q = nI (h q) ∧ h q ≤ 99) {r : Nat} : ∀ (n code k : Nat) (has : Nat → Int32) (a : Nat → Nat), r - k < n → (∀ i : Nat, i < 4 → has i = nI (a i)) → ∀ i : Nat, i < 4 → F_X5_even_L94 heats r n code k has i = nI (a i + x_sN h (r - k) code i) := by
  intro n
  induction n with
  | zero => intro code k has a q; exact absurd q (Nat.not_lt_zero _)
  | succ n ih =>
    intro code k has a q ha i hi
    rw [F_X5_even_L94]
    by_cases c : r ≤ k
    · rw [if_pos c, show r - k = 0 by omega]; exact ha i hi
    · rw [if_neg c, x_nmE, ih (code / 24) (k + 1) _ (fun i => a i + h (x_cellsN (4 * (code % 24) + i))) (by omega) (fun i hi => ?_) i hi]
      · rw [show r - k = (r - (k + 1)) + 1 by omega, x_sNS, Nat.add_assoc]
      · have hx := x_cell4 ⟨code % 24, Nat.mod_lt _ (by decide)⟩ ⟨i, hi⟩
        dsimp only at hx
        rw [x_l103 i hi, ha i hi, (hh _ hx).1, nI_add]
theorem x_l71 {has : Nat → Int32} : ∀ i : Nat, i < 4 → F_X5_even_L71 (4 + 1) 0 has i = 0 := by
  intro i hi
  have e : i = 0 ∨ i = 1 ∨ i = 2 ∨ i = 3 := by omega
  rcases e with rfl | rfl | rfl | rfl <;> rfl
theorem x_least5 {heats has : Nat → Int32} {h : Nat → Nat} (hh : ∀ q : Nat, q < 4 → heats q = nI (h q) ∧ h q ≤ 99) {r code : Nat} (hr : r ≤ 3) {H : Nat → Int32} (hH : F_X5_even_L94 heats r (r + 1) code 0 (F_X5_even_L71 (4 + 1) 0 has) = H) : F_X5_even_L169 H (4 + 1) (H 0) 1 = nI (x_lN h r code) := by
  have b : ∀ i : Nat, i < 4 → x_sN h r code i ≤ 99 * r := fun i hi => x_sN_le (fun q hq => (hh q hq).2) r code i hi
  have b0 := b 0 (by decide)
  have b1 := b 1 (by decide)
  have b2 := b 2 (by decide)
  have b3 := b 3 (by decide)
  have s : ∀ i : Nat, i < 4 → H i = nI (x_sN h r code i) := by
    intro i hi
    rw [← hH, x_l94 hh (r + 1) code 0 _ (fun _ => 0) (by omega) (fun i hi => by rw [x_l71 i hi]; rfl) i hi, Nat.zero_add, Nat.sub_zero]
  have mn : ∀ x y : Int32, (if x ≤ y then x else y) = (if y < x then y else x) := fun x y => by
    by_cases c : y < x
    · rw [if_pos c, if_neg (Int32.not_le.mpr c)]
    · rw [if_neg c, if_pos (Int32.not_lt.mp c)]
  rw [F_X5_even_L169, if_neg (by decide), s 0 (by decide), s 1 (by decide), x_nmE, mn, x_minN (by omega) (by omega)]
  rw [F_X5_even_L169, if_neg (by decide), s 2 (by decide), x_nmE, mn, x_minN (by omega) (by omega)]
  rw [F_X5_even_L169, if_neg (by decide), s 3 (by decide), x_nmE, mn, x_minN (by omega) (by omega)]
  rw [F_X5_even_L169, if_pos (by decide), x_lN]
  congr 1
  omega
/-- the greatest of the first V, and where first -/
def x_top (l : Nat → Nat) (V M F : Nat) : Prop := F < V ∧ l F = M ∧ (∀ q : Nat, q < V → l q ≤ M) ∧ ∀ q : Nat, q < F → l q < M
theorem x_topU {l : Nat → Nat} {V V' M M' F F' : Nat} (h : x_top l V M F) (h' : x_top l V' M' F') (hV : V ≤ V') (hs : ∀ q : Nat, q < V' → ∃ q' : Nat, q' < V ∧ l q' = l q) : M = M' ∧ F = F' := by
  obtain ⟨a1, a2, a3, a4⟩ := h
  obtain ⟨b1, b2, b3, b4⟩ := h'
  have e1 : M ≤ M' := by rw [← a2]; exact b3 F (by omega)
  obtain ⟨q', c1, c2⟩ := hs F' b1
  have e2 : M' ≤ M := by rw [← b2, ← c2]; exact a3 q' c1
  have e3 : M = M' := by omega
  subst e3
  refine ⟨rfl, ?_⟩
  rcases Nat.lt_trichotomy F F' with q | q | q
  · have := b4 F q; omega
  · exact q
  · have := a4 F' q; omega
theorem x_topS {l : Nat → Nat} {k M F : Nat} (h : x_top l k M F) : (l k ≤ M → x_top l (k + 1) M F) ∧ (¬ l k ≤ M → x_top l (k + 1) (l k) k) := by
  obtain ⟨a1, a2, a3, a4⟩ := h
  refine ⟨fun z => ⟨by omega, a2, fun q hq => ?_, a4⟩, fun z => ⟨by omega, rfl, fun q hq => ?_, fun q hq => ?_⟩⟩
  · by_cases e : q = k
    · subst e; exact z
    · exact a3 q (by omega)
  · by_cases e : q = k
    · subst e; exact Nat.le_refl _
    · have := a3 q (by omega); omega
  · have := a3 q hq; omega
theorem x_ev4 {heats : Nat → Int32} {h : Nat → Nat} (hh : ∀ q : Nat, q < 4 → heats q = nI (h q) ∧ h q ≤ 99) {r V : Nat} (hr : r ≤ 3) (hV : V ≤ 20000) : ∀ (n k M F : Nat), V - k < n → k ≤ V → x_top (x_lN h r) k M F → ∃ M' F' : Nat, F_X4_even_L52 heats r V n (nI M) (nI F) k = (nI M', nI F') ∧ x_top (x_lN h r) V M' F' := by
  have lb : ∀ c : Nat, x_lN h r c ≤ 297 := fun c => by
    have h1 := x_lN_le h r c 0 (by decide)
    have h2 := x_sN_le (fun q hq => (hh q hq).2) r c 0 (by decide)
    omega
  intro n
  induction n with
  | zero => intro k M F q; exact absurd q (Nat.not_lt_zero _)
  | succ n ih =>
    intro k M F q hk ht
    rw [F_X4_even_L52]
    by_cases c : V ≤ k
    · rw [if_pos c]
      have e : k = V := Nat.le_antisymm hk c
      subst e
      exact ⟨M, F, rfl, ht⟩
    · have hM : M ≤ 297 := by rw [← ht.2.1]; exact lb F
      have hk2 := lb k
      rw [if_neg c, x_least4 hh hr, x_nmE]
      by_cases c2 : x_lN h r k ≤ M
      · rw [if_pos (nI_le c2 (by omega)), x_nmE]
        exact ih (k + 1) M F (by omega) (by omega) ((x_topS ht).1 c2)
      · rw [if_neg (by rw [nI_leI (by omega) (by omega)]; exact c2), x_nmE]
        exact ih (k + 1) (x_lN h r k) k (by omega) (by omega) ((x_topS ht).2 c2)
theorem x_ev5 {heats : Nat → Int32} {h : Nat → Nat} (hh : ∀ q : Nat, q < 4 → heats q = nI (h q) ∧ h q ≤ 99) {r V : Nat} (hr : r ≤ 3) (hV : V ≤ 20000) : ∀ (n k M F : Nat) (has : Nat → Int32), V - k < n → k ≤ V → x_top (x_lN h r) k M F → ∃ (M' F' : Nat) (has' : Nat → Int32), F_X5_even_L58 heats r V n (nI F) (nI M) k has = (nI F', nI M', has') ∧ x_top (x_lN h r) V M' F' := by
  have lb : ∀ c : Nat, x_lN h r c ≤ 297 := fun c => by
    have h1 := x_lN_le h r c 0 (by decide)
    have h2 := x_sN_le (fun q hq => (hh q hq).2) r c 0 (by decide)
    omega
  intro n
  induction n with
  | zero => intro k M F has q; exact absurd q (Nat.not_lt_zero _)
  | succ n ih =>
    intro k M F has q hk ht
    rw [F_X5_even_L58]
    by_cases c : V ≤ k
    · rw [if_pos c]
      have e : k = V := Nat.le_antisymm hk c
      subst e
      exact ⟨M, F, has, rfl, ht⟩
    · have hM : M ≤ 297 := by rw [← ht.2.1]; exact lb F
      have hk2 := lb k
      rw [if_neg c, x_nmE, x_nmE]
      generalize hH : F_X5_even_L94 heats r (r + 1) k 0 (F_X5_even_L71 (4 + 1) 0 has) = H
      rw [x_least5 hh hr hH, x_nmE]
      by_cases c2 : x_lN h r k ≤ M
      · rw [if_pos (nI_le c2 (by omega)), if_pos (nI_le c2 (by omega)), x_nmE, x_nmE]
        exact ih (k + 1) M F H (by omega) (by omega) ((x_topS ht).1 c2)
      · have c3 : ¬ nI (x_lN h r k) ≤ nI M := by rw [nI_leI (by omega) (by omega)]; exact c2
        rw [if_neg c3, if_neg c3, x_nmE, x_nmE]
        exact ih (k + 1) (x_lN h r k) k H (by omega) (by omega) ((x_topS ht).2 c2)
theorem x_top1 (l : Nat → Nat) : x_top l 1 (l 0) 0 := by
  refine ⟨by decide, rfl, fun q hq => ?_, fun q hq => absurd hq (Nat.not_lt_zero _)⟩
  have e : q = 0 := by omega
  subst e
  exact Nat.le_refl _
theorem s_even {t_kept : Nat → Int32} {t_heats : Nat → Int32} {t_salts : Nat → Int32} {t_crumbsOf : Nat → Int32} {t_tests : Nat} {t_traced : Int64} {r_radius : Int32} {r_skin : Int32} {r_filling : Int32} {r_water : Int32} {r_ends : Int32} {r_thin : Int32} {r_chance : Int32} {r_bentFace : Int32} {r_bentBy : Int32} {r_doings : Nat} {r_kinds : Nat → Int32} {r_firsts : Nat → Int32} {r_seconds : Nat → Int32} {d_seconds : Nat → Int32} {e_text : Nat → Int32} {e_length : Nat} {m_down : Int32} {m_degrees : Nat → Int32} {m_brown : Nat → Int32} {m_core : Int32} {m_water : Int32} {m_pricked : Int32} {m_thinSpots : Int32} {m_seconds : Int32} {m_gone : Int32} {m_splitAt : Int32} {m_steam : Int32} {i0_down : Int32} {i0_degrees : Nat → Int32} {i0_brown : Nat → Int32} {i0_core : Int32} {i0_water : Int32} {i0_pricked : Int32} {i0_thinSpots : Int32} {i0_seconds : Int32} {i0_gone : Int32} {i0_splitAt : Int32} {i0_steam : Int32} {i1_down : Int32} {i1_degrees : Nat → Int32} {i1_brown : Nat → Int32} {i1_core : Int32} {i1_water : Int32} {i1_pricked : Int32} {i1_thinSpots : Int32} {i1_seconds : Int32} {i1_gone : Int32} {i1_splitAt : Int32} {i1_steam : Int32} {u_length : Nat} {u_text : Nat → Int32} {u_is : Nat → Int32} {u_doings : Nat → Int32} {u_doing : Nat → Int32} {u_row : Nat → Int32} {u_isKept : Nat → Int32} {u_heats : Nat → Int32} {u_orders : Nat → Int32} {u_has : Nat → Int32} {u_tests : Nat} {u_salt : Nat → Int32} {u_crumbs : Nat → Int32} {u_traced : Int64} {a1 : Int32} {a2 : Int32} {u_has_321 : Nat → Int32} {z_318 z_322 : Int32} (hI : Inv (r_radius, r_skin, r_filling, r_water, r_ends, r_thin, r_chance, r_bentFace, r_bentBy, r_doings, r_kinds, r_firsts, r_seconds) e_length e_text (m_down, m_core, m_water, m_pricked, m_thinSpots, m_seconds, m_gone, m_splitAt, m_steam, m_degrees, m_brown) (i0_down, i0_core, i0_water, i0_pricked, i0_thinSpots, i0_seconds, i0_gone, i0_splitAt, i0_steam, i0_degrees, i0_brown) (i1_down, i1_core, i1_water, i1_pricked, i1_thinSpots, i1_seconds, i1_gone, i1_splitAt, i1_steam, i1_degrees, i1_brown) t_kept t_heats t_tests t_salts t_crumbsOf t_traced u_length u_text u_is u_doings u_doing u_row u_isKept u_heats u_orders u_tests u_salt u_crumbs u_traced d_seconds) (h4 : z_318 = F_X4_even t_heats a1 a2) (h5 : (z_322, u_has_321) = F_X5_even u_heats u_has a1 a2) : z_318 = z_322 ∧ Inv (r_radius, r_skin, r_filling, r_water, r_ends, r_thin, r_chance, r_bentFace, r_bentBy, r_doings, r_kinds, r_firsts, r_seconds) e_length e_text (m_down, m_core, m_water, m_pricked, m_thinSpots, m_seconds, m_gone, m_splitAt, m_steam, m_degrees, m_brown) (i0_down, i0_core, i0_water, i0_pricked, i0_thinSpots, i0_seconds, i0_gone, i0_splitAt, i0_steam, i0_degrees, i0_brown) (i1_down, i1_core, i1_water, i1_pricked, i1_thinSpots, i1_seconds, i1_gone, i1_splitAt, i1_steam, i1_degrees, i1_brown) t_kept t_heats t_tests t_salts t_crumbsOf t_traced u_length u_text u_is u_doings u_doing u_row u_isKept u_heats u_orders u_tests u_salt u_crumbs u_traced d_seconds := by
  refine And.intro ?_ hI
  obtain ⟨-, -, -, -, hE, -⟩ := hI
  obtain ⟨hN, hh4, hh5⟩ : ∃ hN : Nat → Nat, (∀ q : Nat, q < 4 → t_heats q = nI (hN q) ∧ hN q ≤ 99) ∧ ∀ q : Nat, q < 4 → u_heats q = nI (hN q) ∧ hN q ≤ 99 := by
    refine ⟨fun q => (t_heats q).toNatClampNeg, fun q hq => x_btwN (hi := 99) (hE q hq).2, fun q hq => ?_⟩
    rw [← (hE q hq).1]
    exact x_btwN (hi := 99) (hE q hq).2
  rw [F_X4_even, x_nmE] at h4
  rw [F_X5_even, x_nmE] at h5
  by_cases c1 : F_X4_outside a1 1 3 = 0
  · obtain ⟨d1, d2, d3⟩ := x_outs (lo := 1) (hi := 3) (by decide) (by decide) c1
    rw [if_pos c1, x_nmE, x_nmE] at h4
    rw [if_neg (x_ioN 1 3 (by decide) (by decide) c1), x_nmE, x_nmE] at h5
    by_cases c2 : F_X4_outside a2 0 1 = 0
    · obtain ⟨f1, f2, f3⟩ := x_outs (lo := 0) (hi := 1) (by decide) (by decide) c2
      rw [if_pos c2, x_nmE, x_nmE] at h4
      rw [if_neg (x_ioN 0 1 (by decide) (by decide) c2), x_nmE, x_nmE] at h5
      generalize a1.toNatClampNeg = r at d1 d2 h4 h5
      obtain ⟨r0, rfl⟩ : ∃ r0, r = r0 + 1 := ⟨r - 1, by omega⟩
      have hv4 : (if r0 + 1 = 1 then 1 else if r0 + 1 = 2 then 24 else 576) = 24 ^ r0 := by
        have e : r0 = 0 ∨ r0 = 1 ∨ r0 = 2 := by omega
        rcases e with rfl | rfl | rfl <;> decide
      have hv5 : (if r0 + 1 = 1 then 24 else if r0 + 1 = 2 then 576 else 13824) = 24 ^ (r0 + 1) := by
        have e : r0 = 0 ∨ r0 = 1 ∨ r0 = 2 := by omega
        rcases e with rfl | rfl | rfl <;> decide
      have hb5 : 24 ^ (r0 + 1) ≤ 20000 := by
        have e : r0 = 0 ∨ r0 = 1 ∨ r0 = 2 := by omega
        rcases e with rfl | rfl | rfl <;> decide
      have hb4 : 24 ^ r0 ≤ 24 ^ (r0 + 1) := Nat.pow_le_pow_right (by decide) (by omega)
      have hp4 : 1 ≤ 24 ^ r0 := by
        have e : r0 = 0 ∨ r0 = 1 ∨ r0 = 2 := by omega
        rcases e with rfl | rfl | rfl <;> decide
      rw [hv4, x_nmE] at h4
      rw [hv5] at h5
      have lneg : ∀ x : Nat, x < 2 ^ 31 → ¬ nI x ≤ -1 := fun x hx => by
        rw [Int32.le_iff_toInt_le, nI_toInt hx, show (-1 : Int32).toInt = -1 by decide]
        omega
      have l0 : x_lN hN (r0 + 1) 0 < 2 ^ 31 := by
        have q1 := x_lN_le hN (r0 + 1) 0 0 (by decide)
        have q2 := x_sN_le (fun q hq => (hh4 q hq).2) (r0 + 1) 0 0 (by decide)
        omega
      obtain ⟨M4, F4, e4, t4⟩ := x_ev4 hh4 (r := r0 + 1) (V := 24 ^ r0) (by omega) (by omega) (24 ^ r0) 1 (x_lN hN (r0 + 1) 0) 0 (by omega) hp4 (x_top1 _)
      have g4 : F_X4_even_L52 t_heats (r0 + 1) (24 ^ r0) (24 ^ r0 + 1) (-1) 0 0 = (nI M4, nI F4) := by
        rw [F_X4_even_L52, if_neg (by omega), x_least4 hh4 (by omega), x_nmE, if_neg (lneg _ l0), x_nmE]
        exact e4
      obtain ⟨H, hH⟩ : ∃ H, F_X5_even_L94 u_heats (r0 + 1) (r0 + 1 + 1) 0 0 (F_X5_even_L71 (4 + 1) 0 u_has) = H := ⟨_, rfl⟩
      obtain ⟨M5, F5, has', e5, t5⟩ := x_ev5 hh5 (r := r0 + 1) (V := 24 ^ (r0 + 1)) (by omega) hb5 (24 ^ (r0 + 1)) 1 (x_lN hN (r0 + 1) 0) 0 H (by omega) (by omega) (x_top1 _)
      have g5 : F_X5_even_L58 u_heats (r0 + 1) (24 ^ (r0 + 1)) (24 ^ (r0 + 1) + 1) 0 (-1) 0 u_has = (nI F5, nI M5, has') := by
        rw [F_X5_even_L58, if_neg (by omega), x_nmE, x_nmE, hH, x_least5 hh5 (by omega) hH, x_nmE, if_neg (lneg _ l0), if_neg (lneg _ l0), x_nmE, x_nmE]
        exact e5
      obtain ⟨u1, u2⟩ := x_topU t4 t5 hb4 (fun q hq => x_symL hN r0 q hq)
      rw [g4, x_nmE] at h4
      rw [x_nmE, g5] at h5
      repeat rw [x_nmE] at h5
      dsimp only at h4 h5
      have h5 := (Prod.mk.inj h5).1
      rw [h4, h5, u1, u2]
    · rw [if_neg c2] at h4
      rw [if_pos (x_ioP 0 1 (by decide) (by decide) c2)] at h5
      rw [h4]
      exact (Prod.mk.inj h5).1.symm
  · rw [if_neg c1] at h4
    rw [if_pos (x_ioP 1 3 (by decide) (by decide) c1)] at h5
    rw [h4]
    exact (Prod.mk.inj h5).1.symm
