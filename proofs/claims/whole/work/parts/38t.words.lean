/-! the steps of the law: words -/
def t_nm (v : Nat) : List Nat := ([[115, 107, 105, 110], [98, 101, 110, 116], [102, 105, 114, 101], [116, 117, 114, 110], [112, 114, 105, 99, 107], [115, 105, 109, 109, 101, 114]] : List (List Nat)).getD v []
def t_word (c : Nat → Nat) (B m : Nat) : List Nat := (List.range m).map (fun i => c (B + i))
def t_fold (c : Nat → Nat) (B : Nat) : Nat → Nat
  | 0 => 0
  | j + 1 => 256 * t_fold c B j + c (B + j)
theorem t_dec0 {c : Nat → Nat} {B m : Nat} (hm : m ≤ 8) (h : ∀ i : Nat, i < m → 97 ≤ c (B + i) ∧ c (B + i) ≤ 122) : t_fold c B m = 1936419182 ↔ t_word c B m = t_nm 0 := by
  rcases (by omega : m = 0 ∨ m = 1 ∨ m = 2 ∨ m = 3 ∨ m = 4 ∨ m = 5 ∨ m = 6 ∨ m = 7 ∨ m = 8) with rfl | rfl | rfl | rfl | rfl | rfl | rfl | rfl | rfl
  · have f : t_fold c B 0 = 0 := rfl
    rw [f]
    exact ⟨fun e => by omega, fun e => absurd (congrArg List.length e) (show ¬ 0 = 4 by decide)⟩
  · have f : t_fold c B 1 = 256 * (0) + c (B + 0) := rfl
    have h0 := h 0 (by decide)
    rw [f]
    exact ⟨fun e => by omega, fun e => absurd (congrArg List.length e) (show ¬ 1 = 4 by decide)⟩
  · have f : t_fold c B 2 = 256 * (256 * (0) + c (B + 0)) + c (B + 1) := rfl
    have h0 := h 0 (by decide)
    have h1 := h 1 (by decide)
    rw [f]
    exact ⟨fun e => by omega, fun e => absurd (congrArg List.length e) (show ¬ 2 = 4 by decide)⟩
  · have f : t_fold c B 3 = 256 * (256 * (256 * (0) + c (B + 0)) + c (B + 1)) + c (B + 2) := rfl
    have h0 := h 0 (by decide)
    have h1 := h 1 (by decide)
    have h2 := h 2 (by decide)
    rw [f]
    exact ⟨fun e => by omega, fun e => absurd (congrArg List.length e) (show ¬ 3 = 4 by decide)⟩
  · have f : t_fold c B 4 = 256 * (256 * (256 * (256 * (0) + c (B + 0)) + c (B + 1)) + c (B + 2)) + c (B + 3) := rfl
    have h0 := h 0 (by decide)
    have h1 := h 1 (by decide)
    have h2 := h 2 (by decide)
    have h3 := h 3 (by decide)
    rw [f]
    constructor
    · intro e
      have e : c (B + 0) = 115 ∧ c (B + 1) = 107 ∧ c (B + 2) = 105 ∧ c (B + 3) = 110 := by omega
      show [c (B + 0), c (B + 1), c (B + 2), c (B + 3)] = [115, 107, 105, 110]
      obtain ⟨e0, e1, e2, e3⟩ := e
      rw [e0, e1, e2, e3]
    · intro e
      have e : [c (B + 0), c (B + 1), c (B + 2), c (B + 3)] = [115, 107, 105, 110] := e
      simp only [List.cons.injEq, and_true] at e
      omega
  · have f : t_fold c B 5 = 256 * (256 * (256 * (256 * (256 * (0) + c (B + 0)) + c (B + 1)) + c (B + 2)) + c (B + 3)) + c (B + 4) := rfl
    have h0 := h 0 (by decide)
    have h1 := h 1 (by decide)
    have h2 := h 2 (by decide)
    have h3 := h 3 (by decide)
    have h4 := h 4 (by decide)
    rw [f]
    exact ⟨fun e => by omega, fun e => absurd (congrArg List.length e) (show ¬ 5 = 4 by decide)⟩
  · have f : t_fold c B 6 = 256 * (256 * (256 * (256 * (256 * (256 * (0) + c (B + 0)) + c (B + 1)) + c (B + 2)) + c (B + 3)) + c (B + 4)) + c (B + 5) := rfl
    have h0 := h 0 (by decide)
    have h1 := h 1 (by decide)
    have h2 := h 2 (by decide)
    have h3 := h 3 (by decide)
    have h4 := h 4 (by decide)
    have h5 := h 5 (by decide)
    rw [f]
    exact ⟨fun e => by omega, fun e => absurd (congrArg List.length e) (show ¬ 6 = 4 by decide)⟩
  · have f : t_fold c B 7 = 256 * (256 * (256 * (256 * (256 * (256 * (256 * (0) + c (B + 0)) + c (B + 1)) + c (B + 2)) + c (B + 3)) + c (B + 4)) + c (B + 5)) + c (B + 6) := rfl
    have h0 := h 0 (by decide)
    have h1 := h 1 (by decide)
    have h2 := h 2 (by decide)
    have h3 := h 3 (by decide)
    have h4 := h 4 (by decide)
    have h5 := h 5 (by decide)
    have h6 := h 6 (by decide)
    rw [f]
    exact ⟨fun e => by omega, fun e => absurd (congrArg List.length e) (show ¬ 7 = 4 by decide)⟩
  · have f : t_fold c B 8 = 256 * (256 * (256 * (256 * (256 * (256 * (256 * (256 * (0) + c (B + 0)) + c (B + 1)) + c (B + 2)) + c (B + 3)) + c (B + 4)) + c (B + 5)) + c (B + 6)) + c (B + 7) := rfl
    have h0 := h 0 (by decide)
    have h1 := h 1 (by decide)
    have h2 := h 2 (by decide)
    have h3 := h 3 (by decide)
    have h4 := h 4 (by decide)
    have h5 := h 5 (by decide)
    have h6 := h 6 (by decide)
    have h7 := h 7 (by decide)
    rw [f]
    exact ⟨fun e => by omega, fun e => absurd (congrArg List.length e) (show ¬ 8 = 4 by decide)⟩
theorem t_dec1 {c : Nat → Nat} {B m : Nat} (hm : m ≤ 8) (h : ∀ i : Nat, i < m → 97 ≤ c (B + i) ∧ c (B + i) ≤ 122) : t_fold c B m = 1650814580 ↔ t_word c B m = t_nm 1 := by
  rcases (by omega : m = 0 ∨ m = 1 ∨ m = 2 ∨ m = 3 ∨ m = 4 ∨ m = 5 ∨ m = 6 ∨ m = 7 ∨ m = 8) with rfl | rfl | rfl | rfl | rfl | rfl | rfl | rfl | rfl
  · have f : t_fold c B 0 = 0 := rfl
    rw [f]
    exact ⟨fun e => by omega, fun e => absurd (congrArg List.length e) (show ¬ 0 = 4 by decide)⟩
  · have f : t_fold c B 1 = 256 * (0) + c (B + 0) := rfl
    have h0 := h 0 (by decide)
    rw [f]
    exact ⟨fun e => by omega, fun e => absurd (congrArg List.length e) (show ¬ 1 = 4 by decide)⟩
  · have f : t_fold c B 2 = 256 * (256 * (0) + c (B + 0)) + c (B + 1) := rfl
    have h0 := h 0 (by decide)
    have h1 := h 1 (by decide)
    rw [f]
    exact ⟨fun e => by omega, fun e => absurd (congrArg List.length e) (show ¬ 2 = 4 by decide)⟩
  · have f : t_fold c B 3 = 256 * (256 * (256 * (0) + c (B + 0)) + c (B + 1)) + c (B + 2) := rfl
    have h0 := h 0 (by decide)
    have h1 := h 1 (by decide)
    have h2 := h 2 (by decide)
    rw [f]
    exact ⟨fun e => by omega, fun e => absurd (congrArg List.length e) (show ¬ 3 = 4 by decide)⟩
  · have f : t_fold c B 4 = 256 * (256 * (256 * (256 * (0) + c (B + 0)) + c (B + 1)) + c (B + 2)) + c (B + 3) := rfl
    have h0 := h 0 (by decide)
    have h1 := h 1 (by decide)
    have h2 := h 2 (by decide)
    have h3 := h 3 (by decide)
    rw [f]
    constructor
    · intro e
      have e : c (B + 0) = 98 ∧ c (B + 1) = 101 ∧ c (B + 2) = 110 ∧ c (B + 3) = 116 := by omega
      show [c (B + 0), c (B + 1), c (B + 2), c (B + 3)] = [98, 101, 110, 116]
      obtain ⟨e0, e1, e2, e3⟩ := e
      rw [e0, e1, e2, e3]
    · intro e
      have e : [c (B + 0), c (B + 1), c (B + 2), c (B + 3)] = [98, 101, 110, 116] := e
      simp only [List.cons.injEq, and_true] at e
      omega
  · have f : t_fold c B 5 = 256 * (256 * (256 * (256 * (256 * (0) + c (B + 0)) + c (B + 1)) + c (B + 2)) + c (B + 3)) + c (B + 4) := rfl
    have h0 := h 0 (by decide)
    have h1 := h 1 (by decide)
    have h2 := h 2 (by decide)
    have h3 := h 3 (by decide)
    have h4 := h 4 (by decide)
    rw [f]
    exact ⟨fun e => by omega, fun e => absurd (congrArg List.length e) (show ¬ 5 = 4 by decide)⟩
  · have f : t_fold c B 6 = 256 * (256 * (256 * (256 * (256 * (256 * (0) + c (B + 0)) + c (B + 1)) + c (B + 2)) + c (B + 3)) + c (B + 4)) + c (B + 5) := rfl
    have h0 := h 0 (by decide)
    have h1 := h 1 (by decide)
    have h2 := h 2 (by decide)
    have h3 := h 3 (by decide)
    have h4 := h 4 (by decide)
    have h5 := h 5 (by decide)
    rw [f]
    exact ⟨fun e => by omega, fun e => absurd (congrArg List.length e) (show ¬ 6 = 4 by decide)⟩
  · have f : t_fold c B 7 = 256 * (256 * (256 * (256 * (256 * (256 * (256 * (0) + c (B + 0)) + c (B + 1)) + c (B + 2)) + c (B + 3)) + c (B + 4)) + c (B + 5)) + c (B + 6) := rfl
    have h0 := h 0 (by decide)
    have h1 := h 1 (by decide)
    have h2 := h 2 (by decide)
    have h3 := h 3 (by decide)
    have h4 := h 4 (by decide)
    have h5 := h 5 (by decide)
    have h6 := h 6 (by decide)
    rw [f]
    exact ⟨fun e => by omega, fun e => absurd (congrArg List.length e) (show ¬ 7 = 4 by decide)⟩
  · have f : t_fold c B 8 = 256 * (256 * (256 * (256 * (256 * (256 * (256 * (256 * (0) + c (B + 0)) + c (B + 1)) + c (B + 2)) + c (B + 3)) + c (B + 4)) + c (B + 5)) + c (B + 6)) + c (B + 7) := rfl
    have h0 := h 0 (by decide)
    have h1 := h 1 (by decide)
    have h2 := h 2 (by decide)
    have h3 := h 3 (by decide)
    have h4 := h 4 (by decide)
    have h5 := h 5 (by decide)
    have h6 := h 6 (by decide)
    have h7 := h 7 (by decide)
    rw [f]
    exact ⟨fun e => by omega, fun e => absurd (congrArg List.length e) (show ¬ 8 = 4 by decide)⟩
theorem t_dec2 {c : Nat → Nat} {B m : Nat} (hm : m ≤ 8) (h : ∀ i : Nat, i < m → 97 ≤ c (B + i) ∧ c (B + i) ≤ 122) : t_fold c B m = 1718186597 ↔ t_word c B m = t_nm 2 := by
  rcases (by omega : m = 0 ∨ m = 1 ∨ m = 2 ∨ m = 3 ∨ m = 4 ∨ m = 5 ∨ m = 6 ∨ m = 7 ∨ m = 8) with rfl | rfl | rfl | rfl | rfl | rfl | rfl | rfl | rfl
  · have f : t_fold c B 0 = 0 := rfl
    rw [f]
    exact ⟨fun e => by omega, fun e => absurd (congrArg List.length e) (show ¬ 0 = 4 by decide)⟩
  · have f : t_fold c B 1 = 256 * (0) + c (B + 0) := rfl
    have h0 := h 0 (by decide)
    rw [f]
    exact ⟨fun e => by omega, fun e => absurd (congrArg List.length e) (show ¬ 1 = 4 by decide)⟩
  · have f : t_fold c B 2 = 256 * (256 * (0) + c (B + 0)) + c (B + 1) := rfl
    have h0 := h 0 (by decide)
    have h1 := h 1 (by decide)
    rw [f]
    exact ⟨fun e => by omega, fun e => absurd (congrArg List.length e) (show ¬ 2 = 4 by decide)⟩
  · have f : t_fold c B 3 = 256 * (256 * (256 * (0) + c (B + 0)) + c (B + 1)) + c (B + 2) := rfl
    have h0 := h 0 (by decide)
    have h1 := h 1 (by decide)
    have h2 := h 2 (by decide)
    rw [f]
    exact ⟨fun e => by omega, fun e => absurd (congrArg List.length e) (show ¬ 3 = 4 by decide)⟩
  · have f : t_fold c B 4 = 256 * (256 * (256 * (256 * (0) + c (B + 0)) + c (B + 1)) + c (B + 2)) + c (B + 3) := rfl
    have h0 := h 0 (by decide)
    have h1 := h 1 (by decide)
    have h2 := h 2 (by decide)
    have h3 := h 3 (by decide)
    rw [f]
    constructor
    · intro e
      have e : c (B + 0) = 102 ∧ c (B + 1) = 105 ∧ c (B + 2) = 114 ∧ c (B + 3) = 101 := by omega
      show [c (B + 0), c (B + 1), c (B + 2), c (B + 3)] = [102, 105, 114, 101]
      obtain ⟨e0, e1, e2, e3⟩ := e
      rw [e0, e1, e2, e3]
    · intro e
      have e : [c (B + 0), c (B + 1), c (B + 2), c (B + 3)] = [102, 105, 114, 101] := e
      simp only [List.cons.injEq, and_true] at e
      omega
  · have f : t_fold c B 5 = 256 * (256 * (256 * (256 * (256 * (0) + c (B + 0)) + c (B + 1)) + c (B + 2)) + c (B + 3)) + c (B + 4) := rfl
    have h0 := h 0 (by decide)
    have h1 := h 1 (by decide)
    have h2 := h 2 (by decide)
    have h3 := h 3 (by decide)
    have h4 := h 4 (by decide)
    rw [f]
    exact ⟨fun e => by omega, fun e => absurd (congrArg List.length e) (show ¬ 5 = 4 by decide)⟩
  · have f : t_fold c B 6 = 256 * (256 * (256 * (256 * (256 * (256 * (0) + c (B + 0)) + c (B + 1)) + c (B + 2)) + c (B + 3)) + c (B + 4)) + c (B + 5) := rfl
    have h0 := h 0 (by decide)
    have h1 := h 1 (by decide)
    have h2 := h 2 (by decide)
    have h3 := h 3 (by decide)
    have h4 := h 4 (by decide)
    have h5 := h 5 (by decide)
    rw [f]
    exact ⟨fun e => by omega, fun e => absurd (congrArg List.length e) (show ¬ 6 = 4 by decide)⟩
  · have f : t_fold c B 7 = 256 * (256 * (256 * (256 * (256 * (256 * (256 * (0) + c (B + 0)) + c (B + 1)) + c (B + 2)) + c (B + 3)) + c (B + 4)) + c (B + 5)) + c (B + 6) := rfl
    have h0 := h 0 (by decide)
    have h1 := h 1 (by decide)
    have h2 := h 2 (by decide)
    have h3 := h 3 (by decide)
    have h4 := h 4 (by decide)
    have h5 := h 5 (by decide)
    have h6 := h 6 (by decide)
    rw [f]
    exact ⟨fun e => by omega, fun e => absurd (congrArg List.length e) (show ¬ 7 = 4 by decide)⟩
  · have f : t_fold c B 8 = 256 * (256 * (256 * (256 * (256 * (256 * (256 * (256 * (0) + c (B + 0)) + c (B + 1)) + c (B + 2)) + c (B + 3)) + c (B + 4)) + c (B + 5)) + c (B + 6)) + c (B + 7) := rfl
    have h0 := h 0 (by decide)
    have h1 := h 1 (by decide)
    have h2 := h 2 (by decide)
    have h3 := h 3 (by decide)
    have h4 := h 4 (by decide)
    have h5 := h 5 (by decide)
    have h6 := h 6 (by decide)
    have h7 := h 7 (by decide)
    rw [f]
    exact ⟨fun e => by omega, fun e => absurd (congrArg List.length e) (show ¬ 8 = 4 by decide)⟩
theorem t_dec3 {c : Nat → Nat} {B m : Nat} (hm : m ≤ 8) (h : ∀ i : Nat, i < m → 97 ≤ c (B + i) ∧ c (B + i) ≤ 122) : t_fold c B m = 1953854062 ↔ t_word c B m = t_nm 3 := by
  rcases (by omega : m = 0 ∨ m = 1 ∨ m = 2 ∨ m = 3 ∨ m = 4 ∨ m = 5 ∨ m = 6 ∨ m = 7 ∨ m = 8) with rfl | rfl | rfl | rfl | rfl | rfl | rfl | rfl | rfl
  · have f : t_fold c B 0 = 0 := rfl
    rw [f]
    exact ⟨fun e => by omega, fun e => absurd (congrArg List.length e) (show ¬ 0 = 4 by decide)⟩
  · have f : t_fold c B 1 = 256 * (0) + c (B + 0) := rfl
    have h0 := h 0 (by decide)
    rw [f]
    exact ⟨fun e => by omega, fun e => absurd (congrArg List.length e) (show ¬ 1 = 4 by decide)⟩
  · have f : t_fold c B 2 = 256 * (256 * (0) + c (B + 0)) + c (B + 1) := rfl
    have h0 := h 0 (by decide)
    have h1 := h 1 (by decide)
    rw [f]
    exact ⟨fun e => by omega, fun e => absurd (congrArg List.length e) (show ¬ 2 = 4 by decide)⟩
  · have f : t_fold c B 3 = 256 * (256 * (256 * (0) + c (B + 0)) + c (B + 1)) + c (B + 2) := rfl
    have h0 := h 0 (by decide)
    have h1 := h 1 (by decide)
    have h2 := h 2 (by decide)
    rw [f]
    exact ⟨fun e => by omega, fun e => absurd (congrArg List.length e) (show ¬ 3 = 4 by decide)⟩
  · have f : t_fold c B 4 = 256 * (256 * (256 * (256 * (0) + c (B + 0)) + c (B + 1)) + c (B + 2)) + c (B + 3) := rfl
    have h0 := h 0 (by decide)
    have h1 := h 1 (by decide)
    have h2 := h 2 (by decide)
    have h3 := h 3 (by decide)
    rw [f]
    constructor
    · intro e
      have e : c (B + 0) = 116 ∧ c (B + 1) = 117 ∧ c (B + 2) = 114 ∧ c (B + 3) = 110 := by omega
      show [c (B + 0), c (B + 1), c (B + 2), c (B + 3)] = [116, 117, 114, 110]
      obtain ⟨e0, e1, e2, e3⟩ := e
      rw [e0, e1, e2, e3]
    · intro e
      have e : [c (B + 0), c (B + 1), c (B + 2), c (B + 3)] = [116, 117, 114, 110] := e
      simp only [List.cons.injEq, and_true] at e
      omega
  · have f : t_fold c B 5 = 256 * (256 * (256 * (256 * (256 * (0) + c (B + 0)) + c (B + 1)) + c (B + 2)) + c (B + 3)) + c (B + 4) := rfl
    have h0 := h 0 (by decide)
    have h1 := h 1 (by decide)
    have h2 := h 2 (by decide)
    have h3 := h 3 (by decide)
    have h4 := h 4 (by decide)
    rw [f]
    exact ⟨fun e => by omega, fun e => absurd (congrArg List.length e) (show ¬ 5 = 4 by decide)⟩
  · have f : t_fold c B 6 = 256 * (256 * (256 * (256 * (256 * (256 * (0) + c (B + 0)) + c (B + 1)) + c (B + 2)) + c (B + 3)) + c (B + 4)) + c (B + 5) := rfl
    have h0 := h 0 (by decide)
    have h1 := h 1 (by decide)
    have h2 := h 2 (by decide)
    have h3 := h 3 (by decide)
    have h4 := h 4 (by decide)
    have h5 := h 5 (by decide)
    rw [f]
    exact ⟨fun e => by omega, fun e => absurd (congrArg List.length e) (show ¬ 6 = 4 by decide)⟩
  · have f : t_fold c B 7 = 256 * (256 * (256 * (256 * (256 * (256 * (256 * (0) + c (B + 0)) + c (B + 1)) + c (B + 2)) + c (B + 3)) + c (B + 4)) + c (B + 5)) + c (B + 6) := rfl
    have h0 := h 0 (by decide)
    have h1 := h 1 (by decide)
    have h2 := h 2 (by decide)
    have h3 := h 3 (by decide)
    have h4 := h 4 (by decide)
    have h5 := h 5 (by decide)
    have h6 := h 6 (by decide)
    rw [f]
    exact ⟨fun e => by omega, fun e => absurd (congrArg List.length e) (show ¬ 7 = 4 by decide)⟩
  · have f : t_fold c B 8 = 256 * (256 * (256 * (256 * (256 * (256 * (256 * (256 * (0) + c (B + 0)) + c (B + 1)) + c (B + 2)) + c (B + 3)) + c (B + 4)) + c (B + 5)) + c (B + 6)) + c (B + 7) := rfl
    have h0 := h 0 (by decide)
    have h1 := h 1 (by decide)
    have h2 := h 2 (by decide)
    have h3 := h 3 (by decide)
    have h4 := h 4 (by decide)
    have h5 := h 5 (by decide)
    have h6 := h 6 (by decide)
    have h7 := h 7 (by decide)
    rw [f]
    exact ⟨fun e => by omega, fun e => absurd (congrArg List.length e) (show ¬ 8 = 4 by decide)⟩
theorem t_dec4 {c : Nat → Nat} {B m : Nat} (hm : m ≤ 8) (h : ∀ i : Nat, i < m → 97 ≤ c (B + i) ∧ c (B + i) ≤ 122) : t_fold c B m = 482955846507 ↔ t_word c B m = t_nm 4 := by
  rcases (by omega : m = 0 ∨ m = 1 ∨ m = 2 ∨ m = 3 ∨ m = 4 ∨ m = 5 ∨ m = 6 ∨ m = 7 ∨ m = 8) with rfl | rfl | rfl | rfl | rfl | rfl | rfl | rfl | rfl
  · have f : t_fold c B 0 = 0 := rfl
    rw [f]
    exact ⟨fun e => by omega, fun e => absurd (congrArg List.length e) (show ¬ 0 = 5 by decide)⟩
  · have f : t_fold c B 1 = 256 * (0) + c (B + 0) := rfl
    have h0 := h 0 (by decide)
    rw [f]
    exact ⟨fun e => by omega, fun e => absurd (congrArg List.length e) (show ¬ 1 = 5 by decide)⟩
  · have f : t_fold c B 2 = 256 * (256 * (0) + c (B + 0)) + c (B + 1) := rfl
    have h0 := h 0 (by decide)
    have h1 := h 1 (by decide)
    rw [f]
    exact ⟨fun e => by omega, fun e => absurd (congrArg List.length e) (show ¬ 2 = 5 by decide)⟩
  · have f : t_fold c B 3 = 256 * (256 * (256 * (0) + c (B + 0)) + c (B + 1)) + c (B + 2) := rfl
    have h0 := h 0 (by decide)
    have h1 := h 1 (by decide)
    have h2 := h 2 (by decide)
    rw [f]
    exact ⟨fun e => by omega, fun e => absurd (congrArg List.length e) (show ¬ 3 = 5 by decide)⟩
  · have f : t_fold c B 4 = 256 * (256 * (256 * (256 * (0) + c (B + 0)) + c (B + 1)) + c (B + 2)) + c (B + 3) := rfl
    have h0 := h 0 (by decide)
    have h1 := h 1 (by decide)
    have h2 := h 2 (by decide)
    have h3 := h 3 (by decide)
    rw [f]
    exact ⟨fun e => by omega, fun e => absurd (congrArg List.length e) (show ¬ 4 = 5 by decide)⟩
  · have f : t_fold c B 5 = 256 * (256 * (256 * (256 * (256 * (0) + c (B + 0)) + c (B + 1)) + c (B + 2)) + c (B + 3)) + c (B + 4) := rfl
    have h0 := h 0 (by decide)
    have h1 := h 1 (by decide)
    have h2 := h 2 (by decide)
    have h3 := h 3 (by decide)
    have h4 := h 4 (by decide)
    rw [f]
    constructor
    · intro e
      have e : c (B + 0) = 112 ∧ c (B + 1) = 114 ∧ c (B + 2) = 105 ∧ c (B + 3) = 99 ∧ c (B + 4) = 107 := by omega
      show [c (B + 0), c (B + 1), c (B + 2), c (B + 3), c (B + 4)] = [112, 114, 105, 99, 107]
      obtain ⟨e0, e1, e2, e3, e4⟩ := e
      rw [e0, e1, e2, e3, e4]
    · intro e
      have e : [c (B + 0), c (B + 1), c (B + 2), c (B + 3), c (B + 4)] = [112, 114, 105, 99, 107] := e
      simp only [List.cons.injEq, and_true] at e
      omega
  · have f : t_fold c B 6 = 256 * (256 * (256 * (256 * (256 * (256 * (0) + c (B + 0)) + c (B + 1)) + c (B + 2)) + c (B + 3)) + c (B + 4)) + c (B + 5) := rfl
    have h0 := h 0 (by decide)
    have h1 := h 1 (by decide)
    have h2 := h 2 (by decide)
    have h3 := h 3 (by decide)
    have h4 := h 4 (by decide)
    have h5 := h 5 (by decide)
    rw [f]
    exact ⟨fun e => by omega, fun e => absurd (congrArg List.length e) (show ¬ 6 = 5 by decide)⟩
  · have f : t_fold c B 7 = 256 * (256 * (256 * (256 * (256 * (256 * (256 * (0) + c (B + 0)) + c (B + 1)) + c (B + 2)) + c (B + 3)) + c (B + 4)) + c (B + 5)) + c (B + 6) := rfl
    have h0 := h 0 (by decide)
    have h1 := h 1 (by decide)
    have h2 := h 2 (by decide)
    have h3 := h 3 (by decide)
    have h4 := h 4 (by decide)
    have h5 := h 5 (by decide)
    have h6 := h 6 (by decide)
    rw [f]
    exact ⟨fun e => by omega, fun e => absurd (congrArg List.length e) (show ¬ 7 = 5 by decide)⟩
  · have f : t_fold c B 8 = 256 * (256 * (256 * (256 * (256 * (256 * (256 * (256 * (0) + c (B + 0)) + c (B + 1)) + c (B + 2)) + c (B + 3)) + c (B + 4)) + c (B + 5)) + c (B + 6)) + c (B + 7) := rfl
    have h0 := h 0 (by decide)
    have h1 := h 1 (by decide)
    have h2 := h 2 (by decide)
    have h3 := h 3 (by decide)
    have h4 := h 4 (by decide)
    have h5 := h 5 (by decide)
    have h6 := h 6 (by decide)
    have h7 := h 7 (by decide)
    rw [f]
    exact ⟨fun e => by omega, fun e => absurd (congrArg List.length e) (show ¬ 8 = 5 by decide)⟩
theorem t_dec5 {c : Nat → Nat} {B m : Nat} (hm : m ≤ 8) (h : ∀ i : Nat, i < m → 97 ≤ c (B + i) ∧ c (B + i) ≤ 122) : t_fold c B m = 126896644646258 ↔ t_word c B m = t_nm 5 := by
  rcases (by omega : m = 0 ∨ m = 1 ∨ m = 2 ∨ m = 3 ∨ m = 4 ∨ m = 5 ∨ m = 6 ∨ m = 7 ∨ m = 8) with rfl | rfl | rfl | rfl | rfl | rfl | rfl | rfl | rfl
  · have f : t_fold c B 0 = 0 := rfl
    rw [f]
    exact ⟨fun e => by omega, fun e => absurd (congrArg List.length e) (show ¬ 0 = 6 by decide)⟩
  · have f : t_fold c B 1 = 256 * (0) + c (B + 0) := rfl
    have h0 := h 0 (by decide)
    rw [f]
    exact ⟨fun e => by omega, fun e => absurd (congrArg List.length e) (show ¬ 1 = 6 by decide)⟩
  · have f : t_fold c B 2 = 256 * (256 * (0) + c (B + 0)) + c (B + 1) := rfl
    have h0 := h 0 (by decide)
    have h1 := h 1 (by decide)
    rw [f]
    exact ⟨fun e => by omega, fun e => absurd (congrArg List.length e) (show ¬ 2 = 6 by decide)⟩
  · have f : t_fold c B 3 = 256 * (256 * (256 * (0) + c (B + 0)) + c (B + 1)) + c (B + 2) := rfl
    have h0 := h 0 (by decide)
    have h1 := h 1 (by decide)
    have h2 := h 2 (by decide)
    rw [f]
    exact ⟨fun e => by omega, fun e => absurd (congrArg List.length e) (show ¬ 3 = 6 by decide)⟩
  · have f : t_fold c B 4 = 256 * (256 * (256 * (256 * (0) + c (B + 0)) + c (B + 1)) + c (B + 2)) + c (B + 3) := rfl
    have h0 := h 0 (by decide)
    have h1 := h 1 (by decide)
    have h2 := h 2 (by decide)
    have h3 := h 3 (by decide)
    rw [f]
    exact ⟨fun e => by omega, fun e => absurd (congrArg List.length e) (show ¬ 4 = 6 by decide)⟩
  · have f : t_fold c B 5 = 256 * (256 * (256 * (256 * (256 * (0) + c (B + 0)) + c (B + 1)) + c (B + 2)) + c (B + 3)) + c (B + 4) := rfl
    have h0 := h 0 (by decide)
    have h1 := h 1 (by decide)
    have h2 := h 2 (by decide)
    have h3 := h 3 (by decide)
    have h4 := h 4 (by decide)
    rw [f]
    exact ⟨fun e => by omega, fun e => absurd (congrArg List.length e) (show ¬ 5 = 6 by decide)⟩
  · have f : t_fold c B 6 = 256 * (256 * (256 * (256 * (256 * (256 * (0) + c (B + 0)) + c (B + 1)) + c (B + 2)) + c (B + 3)) + c (B + 4)) + c (B + 5) := rfl
    have h0 := h 0 (by decide)
    have h1 := h 1 (by decide)
    have h2 := h 2 (by decide)
    have h3 := h 3 (by decide)
    have h4 := h 4 (by decide)
    have h5 := h 5 (by decide)
    rw [f]
    constructor
    · intro e
      have e : c (B + 0) = 115 ∧ c (B + 1) = 105 ∧ c (B + 2) = 109 ∧ c (B + 3) = 109 ∧ c (B + 4) = 101 ∧ c (B + 5) = 114 := by omega
      show [c (B + 0), c (B + 1), c (B + 2), c (B + 3), c (B + 4), c (B + 5)] = [115, 105, 109, 109, 101, 114]
      obtain ⟨e0, e1, e2, e3, e4, e5⟩ := e
      rw [e0, e1, e2, e3, e4, e5]
    · intro e
      have e : [c (B + 0), c (B + 1), c (B + 2), c (B + 3), c (B + 4), c (B + 5)] = [115, 105, 109, 109, 101, 114] := e
      simp only [List.cons.injEq, and_true] at e
      omega
  · have f : t_fold c B 7 = 256 * (256 * (256 * (256 * (256 * (256 * (256 * (0) + c (B + 0)) + c (B + 1)) + c (B + 2)) + c (B + 3)) + c (B + 4)) + c (B + 5)) + c (B + 6) := rfl
    have h0 := h 0 (by decide)
    have h1 := h 1 (by decide)
    have h2 := h 2 (by decide)
    have h3 := h 3 (by decide)
    have h4 := h 4 (by decide)
    have h5 := h 5 (by decide)
    have h6 := h 6 (by decide)
    rw [f]
    exact ⟨fun e => by omega, fun e => absurd (congrArg List.length e) (show ¬ 7 = 6 by decide)⟩
  · have f : t_fold c B 8 = 256 * (256 * (256 * (256 * (256 * (256 * (256 * (256 * (0) + c (B + 0)) + c (B + 1)) + c (B + 2)) + c (B + 3)) + c (B + 4)) + c (B + 5)) + c (B + 6)) + c (B + 7) := rfl
    have h0 := h 0 (by decide)
    have h1 := h 1 (by decide)
    have h2 := h 2 (by decide)
    have h3 := h 3 (by decide)
    have h4 := h 4 (by decide)
    have h5 := h 5 (by decide)
    have h6 := h 6 (by decide)
    have h7 := h 7 (by decide)
    rw [f]
    exact ⟨fun e => by omega, fun e => absurd (congrArg List.length e) (show ¬ 8 = 6 by decide)⟩
theorem t_fold_lt {c : Nat → Nat} {B m : Nat} (hm : m ≤ 8) (h : ∀ i : Nat, i < m → 97 ≤ c (B + i) ∧ c (B + i) ≤ 122) : t_fold c B m < 2 ^ 63 := by
  rcases (by omega : m = 0 ∨ m = 1 ∨ m = 2 ∨ m = 3 ∨ m = 4 ∨ m = 5 ∨ m = 6 ∨ m = 7 ∨ m = 8) with rfl | rfl | rfl | rfl | rfl | rfl | rfl | rfl | rfl
  · have f : t_fold c B 0 = 0 := rfl
    rw [f]
    omega
  · have f : t_fold c B 1 = 256 * (0) + c (B + 0) := rfl
    have h0 := h 0 (by decide)
    rw [f]
    omega
  · have f : t_fold c B 2 = 256 * (256 * (0) + c (B + 0)) + c (B + 1) := rfl
    have h0 := h 0 (by decide)
    have h1 := h 1 (by decide)
    rw [f]
    omega
  · have f : t_fold c B 3 = 256 * (256 * (256 * (0) + c (B + 0)) + c (B + 1)) + c (B + 2) := rfl
    have h0 := h 0 (by decide)
    have h1 := h 1 (by decide)
    have h2 := h 2 (by decide)
    rw [f]
    omega
  · have f : t_fold c B 4 = 256 * (256 * (256 * (256 * (0) + c (B + 0)) + c (B + 1)) + c (B + 2)) + c (B + 3) := rfl
    have h0 := h 0 (by decide)
    have h1 := h 1 (by decide)
    have h2 := h 2 (by decide)
    have h3 := h 3 (by decide)
    rw [f]
    omega
  · have f : t_fold c B 5 = 256 * (256 * (256 * (256 * (256 * (0) + c (B + 0)) + c (B + 1)) + c (B + 2)) + c (B + 3)) + c (B + 4) := rfl
    have h0 := h 0 (by decide)
    have h1 := h 1 (by decide)
    have h2 := h 2 (by decide)
    have h3 := h 3 (by decide)
    have h4 := h 4 (by decide)
    rw [f]
    omega
  · have f : t_fold c B 6 = 256 * (256 * (256 * (256 * (256 * (256 * (0) + c (B + 0)) + c (B + 1)) + c (B + 2)) + c (B + 3)) + c (B + 4)) + c (B + 5) := rfl
    have h0 := h 0 (by decide)
    have h1 := h 1 (by decide)
    have h2 := h 2 (by decide)
    have h3 := h 3 (by decide)
    have h4 := h 4 (by decide)
    have h5 := h 5 (by decide)
    rw [f]
    omega
  · have f : t_fold c B 7 = 256 * (256 * (256 * (256 * (256 * (256 * (256 * (0) + c (B + 0)) + c (B + 1)) + c (B + 2)) + c (B + 3)) + c (B + 4)) + c (B + 5)) + c (B + 6) := rfl
    have h0 := h 0 (by decide)
    have h1 := h 1 (by decide)
    have h2 := h 2 (by decide)
    have h3 := h 3 (by decide)
    have h4 := h 4 (by decide)
    have h5 := h 5 (by decide)
    have h6 := h 6 (by decide)
    rw [f]
    omega
  · have f : t_fold c B 8 = 256 * (256 * (256 * (256 * (256 * (256 * (256 * (256 * (0) + c (B + 0)) + c (B + 1)) + c (B + 2)) + c (B + 3)) + c (B + 4)) + c (B + 5)) + c (B + 6)) + c (B + 7) := rfl
    have h0 := h 0 (by decide)
    have h1 := h 1 (by decide)
    have h2 := h 2 (by decide)
    have h3 := h 3 (by decide)
    have h4 := h 4 (by decide)
    have h5 := h 5 (by decide)
    have h6 := h 6 (by decide)
    have h7 := h 7 (by decide)
    rw [f]
    omega
def t_val (c : Nat → Nat) (B j : Nat) : Int64 := if j ≤ 8 then lN (t_fold c B j) else -1
theorem t_valE {c : Nat → Nat} {B m : Nat} (h : ∀ i : Nat, i < m → 97 ≤ c (B + i) ∧ c (B + i) ≤ 122) {K v : Nat} {K' : Int64} (hK : K' = lN K) (hK2 : K < 2 ^ 63) (hl : (t_nm v).length ≤ 8) (hd : m ≤ 8 → (t_fold c B m = K ↔ t_word c B m = t_nm v)) : lg_cmp (t_val c B m) K' = 0 ↔ t_word c B m = t_nm v := by
  rw [lg_cmp_eq, hK, t_val]
  by_cases hm : m ≤ 8
  · rw [if_pos hm, ← hd hm]
    constructor
    · intro e
      have e2 := congrArg Int64.toInt e
      unfold lN at e2
      rw [lg_ofNat_toInt (t_fold_lt hm h), lg_ofNat_toInt hK2] at e2
      omega
    · intro e; rw [e]
  · rw [if_neg hm]
    constructor
    · intro e
      have e2 := congrArg Int64.toInt e
      unfold lN at e2
      rw [lg_ofNat_toInt hK2, show (-1 : Int64).toInt = -1 by decide] at e2
      omega
    · intro e
      have e2 := congrArg List.length e
      have e3 : (t_word c B m).length = m := by rw [t_word, List.length_map, List.length_range]
      omega
theorem x_word_L {c : Nat → Nat} {len : Nat} {et ut : Nat → Int32} (hc : Chs c len et ut) {B : Nat} : ∀ n j : Nat, F_X5_word_L6 len ut B n (t_val c B j) (B + j) = (t_val c B (t_run t_lt c len n (B + j) - B), t_run t_lt c len n (B + j)) := by
  intro n
  induction n with
  | zero => intro j; rw [F_X5_word_L6, t_run, show B + j - B = j by omega]
  | succ n ih =>
    intro j
    have hl := hc.1
    rw [F_X5_word_L6, t_run]
    by_cases c1 : B + j < len
    · obtain ⟨b1, b2, b3, b4⟩ := hc.2 (B + j) c1
      have e := x_chIn b1 b3 b4 (lo := 97) (hi := 122) (lo' := 97) (hi' := 122) (by decide) (by decide) (by decide) (by decide)
      rw [if_neg (show ¬ len ≤ B + j by omega), x_nmE]
      by_cases c2 : 97 ≤ c (B + j) ∧ c (B + j) ≤ 122
      · have e1 : t_lt (c (B + j)) = true := (t_ltE _).mpr c2
        rw [if_neg (fun q => e.mp q c2), x_nmE, if_pos (show B + j < len ∧ t_lt (c (B + j)) = true from ⟨c1, e1⟩)]
        have ev : (if 8 ≤ B + j - B then -1 else 256 * t_val c B j + (ut (B + j)).toInt64) = t_val c B (j + 1) := by
          rw [show B + j - B = j by omega, t_val, t_val]
          by_cases q : 8 ≤ j
          · rw [if_pos q, if_neg (by omega)]
          · rw [if_neg q, if_pos (by omega), if_pos (by omega), b3 (by omega), nI_l (by omega), show (256 : Int64) = lN 256 from rfl, lN_mul, lN_add]
            rfl
        rw [ev]
        exact ih (j + 1)
      · have e1 : ¬ t_lt (c (B + j)) = true := fun q => c2 ((t_ltE _).mp q)
        rw [if_pos (e.mpr c2), if_neg (show ¬ (B + j < len ∧ t_lt (c (B + j)) = true) from fun q => e1 q.2), show B + j - B = j by omega]
    · rw [if_pos (show len ≤ B + j by omega), if_neg (show ¬ (B + j < len ∧ t_lt (c (B + j)) = true) from fun q => c1 q.1), show B + j - B = j by omega]
def t_ref (l : List Nat) : Int32 := if l = t_nm 2 then 0 else if l = t_nm 3 then 1 else if l = t_nm 4 then 2 else if l = t_nm 5 then 3 else if l = t_nm 0 then 4 else if l = t_nm 1 then 5 else -1
theorem t_iteW {p q : Prop} [Decidable p] [Decidable q] (h : p ↔ q) (x y : Int32) : (if p then x else y) = if q then x else y := by
  by_cases hp : p
  · rw [if_pos hp, if_pos (h.mp hp)]
  · rw [if_neg hp, if_neg (fun z => hp (h.mpr z))]
theorem x_word5 {c : Nat → Nat} {len : Nat} {et ut : Nat → Int32} (hc : Chs c len et ut) {N A L : Nat} (hA : t_skip c len N = A) (hL : t_run t_lt c len 301 A = L) : F_X5_word len ut N = (t_ref (t_word c A (L - A)), L, A) := by
  have hin : ∀ i : Nat, i < L - A → 97 ≤ c (A + i) ∧ c (A + i) ≤ 122 := fun i hi => (t_ltE _).mp (t_run_in t_lt c len 301 A (A + i) (by omega) (by rw [hL]; omega)).2
  have w := x_word_L hc (B := A) 301 0
  rw [Nat.add_zero, hL, show t_val c A 0 = 0 from rfl] at w
  rw [F_X5_word, x_blanks hc, hA, x_nmE, w, x_nmE]
  repeat rw [x_nmE]
  dsimp only
  rw [t_ref]
  rw [t_iteW (t_valE hin (K := 1718186597) (v := 2) (by decide) (by decide) (by decide) (fun hm => t_dec2 hm hin))]
  rw [t_iteW (t_valE hin (K := 1953854062) (v := 3) (by decide) (by decide) (by decide) (fun hm => t_dec3 hm hin))]
  rw [t_iteW (t_valE hin (K := 482955846507) (v := 4) (by decide) (by decide) (by decide) (fun hm => t_dec4 hm hin))]
  rw [t_iteW (t_valE hin (K := 126896644646258) (v := 5) (by decide) (by decide) (by decide) (fun hm => t_dec5 hm hin))]
  rw [t_iteW (t_valE hin (K := 1936419182) (v := 0) (by decide) (by decide) (by decide) (fun hm => t_dec0 hm hin))]
  rw [t_iteW (t_valE hin (K := 1650814580) (v := 1) (by decide) (by decide) (by decide) (fun hm => t_dec1 hm hin))]
theorem t_wordE {c : Nat → Nat} {B m : Nat} {l : List Nat} : t_word c B m = l ↔ (m = l.length ∧ ∀ i : Nat, i < l.length → c (B + i) = l.getD i 0) := by
  constructor
  · intro e
    subst e
    have hl : (t_word c B m).length = m := by rw [t_word, List.length_map, List.length_range]
    refine ⟨hl.symm, fun i hi => ?_⟩
    rw [hl] at hi
    simp [t_word, List.getD, hi]
  · intro ⟨e1, e2⟩
    subst e1
    apply List.ext_getElem
    · rw [t_word, List.length_map, List.length_range]
    · intro i h1 h2
      have e3 := e2 i h2
      simp only [t_word, List.getElem_map, List.getElem_range]
      rw [e3]
      simp [List.getD, h2]
theorem x_charAt : ∀ v : Fin 6, ∀ k : Fin 6, k.val < (t_nm v.val).length → F_J0_charAt_5068e v.val k.val = nI ((t_nm v.val).getD k.val 0) ∧ (t_nm v.val).getD k.val 0 < 128 := by decide +kernel
theorem x_lenAt : ∀ v : Fin 6, x_lens.getD v.val 0 = (t_nm v.val).length ∧ (t_nm v.val).length ≤ 6 := by decide +kernel
theorem x_isWord_L {c : Nat → Nat} {len : Nat} {et ut : Nat → Int32} (hc : Chs c len et ut) {A v : Nat} (hv : v < 6) (hA : A + (t_nm v).length ≤ len) : ∀ n k : Nat, (t_nm v).length - k < n → (F_X2_isWord_L20 et len A v n k = 1 ∧ ∀ i : Nat, k ≤ i → i < (t_nm v).length → c (A + i) = (t_nm v).getD i 0) ∨ (F_X2_isWord_L20 et len A v n k = 0 ∧ ¬ ∀ i : Nat, k ≤ i → i < (t_nm v).length → c (A + i) = (t_nm v).getD i 0) := by
  obtain ⟨l1, l2⟩ := x_lenAt ⟨v, hv⟩
  dsimp only at l1 l2
  intro n
  induction n with
  | zero => intro k a; exact absurd a (Nat.not_lt_zero _)
  | succ n ih =>
    intro k a
    have hl := hc.1
    rw [F_X2_isWord_L20, x_nmE, l1]
    by_cases c1 : (t_nm v).length ≤ k
    · rw [if_pos c1]
      exact Or.inl ⟨rfl, fun i q1 q2 => absurd q2 (by omega)⟩
    · obtain ⟨k1, k2⟩ := x_charAt ⟨v, hv⟩ ⟨k, by omega⟩ (by dsimp only; omega)
      dsimp only at k1 k2
      rw [if_neg c1, k1, x_byteAt hc _ (by omega), if_pos (by omega), x_nmE, x_nmE]
      have b1 := (hc.2 (A + k) (by omega)).1
      by_cases c2 : c (A + k) = (t_nm v).getD k 0
      · rw [if_pos (by rw [c2])]
        rcases ih (k + 1) (by omega) with ⟨q1, q2⟩ | ⟨q1, q2⟩
        · refine Or.inl ⟨q1, fun i a b => ?_⟩
          rcases Nat.eq_or_lt_of_le a with rfl | a2
          · exact c2
          · exact q2 i a2 b
        · exact Or.inr ⟨q1, fun z => q2 (fun i a b => z i (by omega) b)⟩
      · rw [if_neg (fun q => c2 ((nI_eq (by omega) (by omega)).mp q).symm)]
        exact Or.inr ⟨rfl, fun z => c2 (z k (Nat.le_refl _) (by omega))⟩
theorem x_isWord {c : Nat → Nat} {len : Nat} {et ut : Nat → Int32} (hc : Chs c len et ut) {A L v : Nat} (hv : v < 6) (h1 : A ≤ L) (h2 : L ≤ len) : F_X2_isWord et len A L v = if t_word c A (L - A) = t_nm v then 1 else 0 := by
  obtain ⟨l1, l2⟩ := x_lenAt ⟨v, hv⟩
  dsimp only at l1 l2
  have hl := hc.1
  rw [F_X2_isWord, x_nmE, l1, pk_sub h1]
  by_cases c1 : (t_nm v).length = L - A
  · rw [if_pos (by rw [c1])]
    rcases x_isWord_L hc (A := A) hv (by omega) ((t_nm v).length + 1) 0 (by omega) with ⟨q1, q2⟩ | ⟨q1, q2⟩
    · rw [q1, if_pos (t_wordE.mpr ⟨c1.symm, fun i hi => q2 i (Nat.zero_le _) hi⟩)]
    · rw [q1, if_neg (fun z => q2 (fun i _ hi => (t_wordE.mp z).2 i hi))]
  · rw [if_neg (fun q => c1 ((nI_eq (by omega) (by omega)).mp q)), if_neg (fun z => c1 (t_wordE.mp z).1.symm)]
def t_cls (l : List Nat) (x : Int32) : Int32 × Int32 := if l = t_nm 5 then (3, 5) else if l = t_nm 4 then (3, 4) else if l = t_nm 3 then (3, 3) else if l = t_nm 2 then (3, 2) else if l = t_nm 1 then (3, 1) else if l = t_nm 0 then (3, 0) else (4, x)
theorem x_word4 {c : Nat → Nat} {len : Nat} {et ut : Nat → Int32} (hc : Chs c len et ut) {A L : Nat} (hA : A ≤ len) (hL : t_run t_lt c len 301 A = L) : F_X2_readWord et len A 0 = ((t_cls (t_word c A (L - A)) 0).1, L, (t_cls (t_word c A (L - A)) 0).2) := by
  have h8 : ∀ n N : Nat, N + n < 2 ^ 30 → F_X2_readWord_L8 et len n N = t_run t_lt c len n N := by
    intro n
    induction n with
    | zero => intro N _; rfl
    | succ n ih =>
      intro N h
      rw [F_X2_readWord_L8, t_run]
      by_cases c1 : N < len
      · have hb := (hc.2 N c1).1
        rw [if_neg (by omega), x_byteAt hc N (by omega), if_pos c1, x_nmE, x_let hb, x_nmE]
        by_cases c2 : t_lt (c N) = true
        · rw [if_pos c2, if_neg (show ¬ (1 : Int32) = 0 by decide), if_pos ⟨c1, c2⟩]
          exact ih (N + 1) (by omega)
        · rw [if_neg c2, if_pos rfl, if_neg (fun q => c2 q.2)]
      · rw [if_pos (by omega), if_neg (fun q => c1 q.1)]
  have h1 : A ≤ L := by rw [← hL]; exact t_run_ge _ _ _ _ _
  have h2 : L ≤ len := by rw [← hL]; exact t_run_le _ _ _ _ _ hA
  have hl := hc.1
  rw [F_X2_readWord, h8 301 A (by omega), hL, x_nmE]
  have z : ∀ v : Nat, v < 6 → F_X2_isWord et len A L v = if t_word c A (L - A) = t_nm v then 1 else 0 := fun v hv => x_isWord hc hv h1 h2
  have st : ∀ (n k : Nat) (tk vl : Int32), k < 6 → F_X2_readWord_L53 et len A L (n + 1) k tk vl = F_X2_readWord_L53 et len A L n (k + 1) (if t_word c A (L - A) = t_nm k then 3 else tk) (if t_word c A (L - A) = t_nm k then nI k else vl) := by
    intro n k tk vl hk
    rw [F_X2_readWord_L53, if_neg (by omega), z k hk, x_nmE]
    by_cases q : t_word c A (L - A) = t_nm k
    · rw [if_pos q, if_pos q, if_pos q, if_neg (show ¬ (1 : Int32) = 0 by decide), x_nmE]
    · rw [if_neg q, if_neg q, if_neg q, if_pos rfl, x_nmE]
  rw [st 6 0 _ _ (by decide), st 5 1 _ _ (by decide), st 4 2 _ _ (by decide), st 3 3 _ _ (by decide), st 2 4 _ _ (by decide), st 1 5 _ _ (by decide)]
  rw [F_X2_readWord_L53, if_pos (by decide), x_nmE, t_cls]
  generalize t_word c A (L - A) = l
  by_cases q5 : l = t_nm 5
  · rw [if_pos q5, if_pos q5, if_pos q5]; rfl
  by_cases q4 : l = t_nm 4
  · rw [if_neg q5, if_neg q5, if_neg q5, if_pos q4, if_pos q4, if_pos q4]; rfl
  by_cases q3 : l = t_nm 3
  · rw [if_neg q5, if_neg q5, if_neg q5, if_neg q4, if_neg q4, if_neg q4, if_pos q3, if_pos q3, if_pos q3]; rfl
  by_cases q2 : l = t_nm 2
  · rw [if_neg q5, if_neg q5, if_neg q5, if_neg q4, if_neg q4, if_neg q4, if_neg q3, if_neg q3, if_neg q3, if_pos q2, if_pos q2, if_pos q2]; rfl
  by_cases q1 : l = t_nm 1
  · rw [if_neg q5, if_neg q5, if_neg q5, if_neg q4, if_neg q4, if_neg q4, if_neg q3, if_neg q3, if_neg q3, if_neg q2, if_neg q2, if_neg q2, if_pos q1, if_pos q1, if_pos q1]; rfl
  by_cases q0 : l = t_nm 0
  · rw [if_neg q5, if_neg q5, if_neg q5, if_neg q4, if_neg q4, if_neg q4, if_neg q3, if_neg q3, if_neg q3, if_neg q2, if_neg q2, if_neg q2, if_neg q1, if_neg q1, if_neg q1, if_pos q0, if_pos q0, if_pos q0]; rfl
  · rw [if_neg q5, if_neg q5, if_neg q5, if_neg q4, if_neg q4, if_neg q4, if_neg q3, if_neg q3, if_neg q3, if_neg q2, if_neg q2, if_neg q2, if_neg q1, if_neg q1, if_neg q1, if_neg q0, if_neg q0, if_neg q0]
