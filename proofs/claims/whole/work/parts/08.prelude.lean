/-! my own layer over the kit: names for values, contracts of one form, calls, returns -/
def x_nm {α β : Type} (e : α) (K : α → β) : β := K e
theorem x_nm_eq {α β : Type} {e v : α} {K : α → β} {o : β} (E : o = x_nm e K) (h : v = e) : o = K v := by subst h; exact E
theorem x_nm_ex {α β : Type} {e : α} {K : α → β} {o : β} (E : o = x_nm e K) : ∃ z, z = e ∧ o = K z := ⟨e, rfl, E⟩
theorem x_pos {β : Type} {c : Prop} [Decidable c] {a b o : β} (E : o = ite c a b) (h : c) : o = a := by rw [if_pos h] at E; exact E
theorem x_neg {β : Type} {c : Prop} [Decidable c] {a b o : β} (E : o = ite c a b) (h : ¬ c) : o = b := by rw [if_neg h] at E; exact E
/-- what the worlds know: the classes, the arrays' classes, the addresses of the constants -/
abbrev x_G : Type := va_G × (Nat → ClassId) × (Nat → Nat)
abbrev x_tys (g : x_G) : List (ClassId × FieldType) := [(g.2.1 0, .int), (g.2.1 1, .boolean), (g.2.1 2, .byte), (g.2.1 3, .object "BurstSkins$Moment")]
def x_cells : Nat → Int32 := fun j => ([0, 1, 2, 3, 0, 1, 3, 2, 0, 2, 1, 3, 0, 2, 3, 1, 0, 3, 1, 2, 0, 3, 2, 1, 1, 0, 2, 3, 1, 0, 3, 2, 1, 2, 0, 3, 1, 2, 3, 0, 1, 3, 0, 2, 1, 3, 2, 0, 2, 0, 1, 3, 2, 0, 3, 1, 2, 1, 0, 3, 2, 1, 3, 0, 2, 3, 0, 1, 2, 3, 1, 0, 3, 0, 1, 2, 3, 0, 2, 1, 3, 1, 0, 2, 3, 1, 2, 0, 3, 2, 0, 1, 3, 2, 1, 0] : List Int32).getD j 0
def x_from : Nat → Int32 := fun j => ([0, 7, 9, 11, 12, 13, 15] : List Int32).getD j 0
def x_low : Nat → Int32 := fun j => ([1, 1, 0, 0, 1, 0, 0, 0, 0, 0, 1, 1, 1, 20, 1] : List Int32).getD j 0
def x_high : Nat → Int32 := fun j => ([9, 999, 99, 999, 999, 999, 10, 3, 99, 300, 99, 3, 9, 100, 99] : List Int32).getD j 0
def x_lens : List Nat := [4, 4, 4, 4, 5, 6]
def x_byts : List (List Int32) := [[115, 107, 105, 110], [98, 101, 110, 116], [102, 105, 114, 101], [116, 117, 114, 110], [112, 114, 105, 99, 107], [115, 105, 109, 109, 101, 114]]
/-- the static arrays and the text constants: where they are, what they hold, that nobody writes them -/
def x_Ext (g : x_G) (A : Nat → Prop) (U : State) (H : Heap) : Prop :=
  (va_Z RX4 "CELLS_OF_ORDERS" "[I" (.ref (g.2.2 0)) A U H ∧ va_T .int (g.2.2 0) 96 (fun j => .int (x_cells j)) A U H) ∧
  (va_Z RX2 "FROM" "[I" (.ref (g.2.2 1)) A U H ∧ va_T .int (g.2.2 1) 7 (fun j => .int (x_from j)) A U H) ∧
  (va_Z RX2 "LOW" "[I" (.ref (g.2.2 2)) A U H ∧ va_T .int (g.2.2 2) 15 (fun j => .int (x_low j)) A U H) ∧
  (va_Z RX2 "HIGH" "[I" (.ref (g.2.2 3)) A U H ∧ va_T .int (g.2.2 3) 15 (fun j => .int (x_high j)) A U H) ∧
  vk_S 6 x_lens x_byts (fun i => g.2.2 (10 + i)) (fun i => g.2.2 (20 + i)) A U H ∧
  va_Z "java/lang/String" "COMPACT_STRINGS" "Z" (.int 1) A U H ∧ ∃ r : Option Nat, va_Z "jdk/internal/util/Preconditions" "SIOOBE_FORMATTER" "Ljava/util/function/BiFunction;" (va_rf r) A U H
def x_Str (g : x_G) (U : State) : Prop := vk_R RX2 143 "skin" (g.2.2 10) U ∧ vk_R RX2 144 "bent" (g.2.2 11) U ∧ vk_R RX2 146 "fire" (g.2.2 12) U ∧ vk_R RX2 148 "turn" (g.2.2 13) U ∧ vk_R RX2 150 "prick" (g.2.2 14) U ∧ vk_R RX2 152 "simmer" (g.2.2 15) U
theorem x_Ext.moved {g : x_G} {A : Nat → Prop} {u U : State} {H : Heap} (hvm : u.vm.Alike U.vm) (h : x_Ext g A u H) : x_Ext g A U H :=
  ⟨⟨h.1.1.moved hvm, h.1.2.moved hvm⟩, ⟨h.2.1.1.moved hvm, h.2.1.2.moved hvm⟩, ⟨h.2.2.1.1.moved hvm, h.2.2.1.2.moved hvm⟩, ⟨h.2.2.2.1.1.moved hvm, h.2.2.2.1.2.moved hvm⟩, h.2.2.2.2.1.moved hvm, h.2.2.2.2.2.1.moved hvm, h.2.2.2.2.2.2.elim fun r hr => ⟨r, hr.moved hvm⟩⟩
theorem x_Ext.kept {g : x_G} {A : Nat → Prop} {U : State} {H H1 : Heap} (hq : ∀ a : Nat, a < H.size → ¬ A a → H1[a]? = H[a]?) (h : x_Ext g A U H) : x_Ext g A U H1 :=
  ⟨⟨h.1.1.kept hq, h.1.2.kept hq⟩, ⟨h.2.1.1.kept hq, h.2.1.2.kept hq⟩, ⟨h.2.2.1.1.kept hq, h.2.2.1.2.kept hq⟩, ⟨h.2.2.2.1.1.kept hq, h.2.2.2.1.2.kept hq⟩, h.2.2.2.2.1.kept hq, h.2.2.2.2.2.1.kept hq, h.2.2.2.2.2.2.elim fun r hr => ⟨r, hr.kept hq⟩⟩
theorem x_Ext.narrow {g : x_G} {A B : Nat → Prop} {U : State} {H : Heap} (hAB : ∀ q, B q → A q) (h : x_Ext g A U H) : x_Ext g B U H :=
  ⟨⟨h.1.1.narrow hAB, h.1.2.narrow hAB⟩, ⟨h.2.1.1.narrow hAB, h.2.1.2.narrow hAB⟩, ⟨h.2.2.1.1.narrow hAB, h.2.2.1.2.narrow hAB⟩, ⟨h.2.2.2.1.1.narrow hAB, h.2.2.2.1.2.narrow hAB⟩, h.2.2.2.2.1.narrow hAB, h.2.2.2.2.2.1.narrow hAB, h.2.2.2.2.2.2.elim fun r hr => ⟨r, hr.narrow hAB⟩⟩
theorem x_Str.warm {g : x_G} {s U : State} (hW : s.WarmedH U.vm) (h : x_Str g s) : x_Str g U := ⟨h.1.warm hW, h.2.1.warm hW, h.2.2.1.warm hW, h.2.2.2.1.warm hW, h.2.2.2.2.1.warm hW, h.2.2.2.2.2.warm hW⟩
theorem x_Str.same {g : x_G} {u U : State} (hv : U.vm = u.vm) (h : x_Str g u) : x_Str g U := ⟨h.1.same hv, h.2.1.same hv, h.2.2.1.same hv, h.2.2.2.1.same hv, h.2.2.2.2.1.same hv, h.2.2.2.2.2.same hv⟩
/-- the links of private members among nest mates, which the word lists don't hold -/
def x_N (U : State) : Prop := va_Nw (.methodLinkNest RX2 53 yX4_outside RX4) U
theorem x_N.warm {s U : State} (hW : s.WarmedH U.vm) (h : x_N s) : x_N U := va_Nw.warmM hW h
def x_K (g : x_G) (U : State) : Prop := va_K g.1 vwCl (x_tys g) U ∧ x_N U ∧ x_Str g U
theorem x_K.warm {g : x_G} {s U : State} (hW : s.WarmedH U.vm) (h : x_K g s) : x_K g U := ⟨va_K.moved hW.alike h.1, h.2.1.warm hW, h.2.2.warm hW⟩
def x_Pre (g : x_G) (ws : va_W) (sz : Nat) (U : State) : Prop := U.heap.size = sz ∧ va_P g.1 vwCl ws U.heap ∧ x_K g U ∧ va_D (fun _ => True) ws ∧ x_Ext g (va_A ws sz) U U.heap
theorem x_blind (g : x_G) (as : List Value) (ws : va_W) (sz : Nat) : FrameBlind (va_Pc as (x_Pre g ws sz)) := fun a U gg mk q => by
  obtain ⟨q0, q1, qP, ⟨qK, qN, qS⟩, qD, qX⟩ := q
  exact ⟨q0, q1, qP, ⟨va_K.moved (u := U) (U := U.calling gg mk a) (Vm.Alike.refl U.vm) qK, va_Nw.same rfl rfl qN, qS.same rfl⟩, qD, qX.moved (u := U) (U := U.calling gg mk a) (Vm.Alike.refl U.vm)⟩
def x_B (g : x_G) (A : Nat → Prop) {S : Type} (w : S → va_W) (u : S) (t : State) : Prop := va_P g.1 vwCl (w u) t.heap ∧ va_D A (w u)
abbrev x_MetI (l : Launch) (y : MethodName) (ws : List Cond) (rm : Room) (g : x_G) (as : List Value) (w : va_W) {S : Type} (post : Int32 → S → Prop) (w' : S → va_W) : Prop :=
  ∀ sz : Nat, Met l y ws rm (va_Pc as (x_Pre g w sz)) (va_Qi post (x_B g (va_A w sz) w') (va_A w sz)) 0 0 (va_A w sz)
abbrev x_MetL (l : Launch) (y : MethodName) (ws : List Cond) (rm : Room) (g : x_G) (as : List Value) (w : va_W) {S : Type} (post : Int64 → S → Prop) (w' : S → va_W) : Prop :=
  ∀ sz : Nat, Met l y ws rm (va_Pc as (x_Pre g w sz)) (va_Ql post (x_B g (va_A w sz) w') (va_A w sz)) 0 0 (va_A w sz)
abbrev x_MetV (l : Launch) (y : MethodName) (ws : List Cond) (rm : Room) (g : x_G) (as : List Value) (w : va_W) {S : Type} (post : S → Prop) (w' : S → va_W) : Prop :=
  ∀ sz : Nat, Met l y ws rm (va_Pc as (x_Pre g w sz)) (va_Qv post (x_B g (va_A w sz) w') (va_A w sz)) 0 0 (va_A w sz)
set_option maxRecDepth 20000 in
theorem x_good : wsL_law.all goodWord = true := by decide +kernel
theorem x_good1 {w : Cond} (h : w ∈ wsL_law) : (w.onTables && w.keeps) = true ∨ ∃ ty, w = .arrayClass ty := good_of_word (List.all_eq_true.mp x_good w h)
theorem x_gN {y : MethodName} {c : ByteArray} {n : Nat} {r : Option FieldType} (h5 : Cond.code y c n r ∈ wsL_law) : GoodIn wsL_law (Cond.code y c n r :: wsL_law) := by
  intro w hw
  rcases List.mem_cons.mp hw with rfl | hw
  · exact ⟨h5, x_good1 h5⟩
  · exact ⟨hw, x_good1 hw⟩
theorem x_gV {own C : String} {idx : Nat} {y : MethodName} {c : ByteArray} {n : Nat} {r : Option FieldType} (h1 : Cond.methodLink own idx y ∈ wsL_law) (h2 : Cond.instanceMethod y ∈ wsL_law) (h3 : Cond.selects C y y ∈ wsL_law) (h4 : Cond.initialized C ∈ wsL_law) (h5 : Cond.code y c n r ∈ wsL_law) : GoodIn wsL_law (wsV own idx C y (Cond.code y c n r :: wsL_law)) := by
  intro w hw
  unfold wsV at hw
  rcases List.mem_append.mp hw with hw | hw
  · simp only [List.mem_cons, List.not_mem_nil, or_false] at hw
    rcases hw with rfl | rfl | rfl | rfl
    · exact ⟨h1, x_good1 h1⟩
    · exact ⟨h2, x_good1 h2⟩
    · exact ⟨h3, x_good1 h3⟩
    · exact ⟨h4, x_good1 h4⟩
  · exact x_gN h5 w hw
theorem x_gS {own : String} {idx : Nat} {y : MethodName} {c : ByteArray} {n : Nat} {r : Option FieldType} (h1 : Cond.methodLink own idx y ∈ wsL_law) (h2 : Cond.static y ∈ wsL_law) (h4 : Cond.initialized y.cls ∈ wsL_law) (h5 : Cond.code y c n r ∈ wsL_law) : GoodIn wsL_law (va_wsS own idx y (Cond.code y c n r :: wsL_law)) := by
  intro w hw
  unfold va_wsS at hw
  rcases List.mem_append.mp hw with hw | hw
  · simp only [List.mem_cons, List.not_mem_nil, or_false] at hw
    rcases hw with rfl | rfl | rfl
    · exact ⟨h1, x_good1 h1⟩
    · exact ⟨h2, x_good1 h2⟩
    · exact ⟨h4, x_good1 h4⟩
  · exact x_gN h5 w hw
/-- an answer that is a known constant object -/
abbrev x_MetR (l : Launch) (y : MethodName) (ws : List Cond) (rm : Room) (g : x_G) (as : List Value) (ad : Nat) : Prop :=
  ∀ sz : Nat, Met l y ws rm (va_Pc as (x_Pre g [] sz)) (va_Qr (fun _ : Unit => True) (fun _ a t => a = ad ∧ va_P g.1 vwCl [] t.heap) (va_A [] sz)) 0 0 (va_A [] sz)
theorem x_entry {m : MethodId} (as : List Value) {n : Nat} (h : (lg_sl as).length ≤ n) : ∃ ls : Array Slot, entryFrame m as.toArray n = F0 m 0 ls [] ∧ lv_has ls n (lv_args 0 as) := by
  refine ⟨_, ?_, lv_entry as h⟩
  rw [lg_entry_eq]
/-- the walk of a method that answers an int (or a boolean): what it is begun with -/
theorem x_startI {l : Launch} {y : MethodName} {ws : List Cond} {rm : Room} {g : x_G} {as : List Value} {w : va_W} {S : Type} {post : Int32 → S → Prop} {w' : S → va_W} {cc : ByteArray} {maxL : Nat} {ty : FieldType}
    (hy : plainName y.cls = true) (hw : ws = Cond.code y cc maxL (some ty) :: wsL_law) (hn : (lg_sl as).length ≤ maxL)
    (body : ∀ (p : Program) (e : Env) (s : State) (m : MethodId) (args : Array Value) (below : List Frame) (meth : Method) (c : Code) (Q : State → Prop) (A : Nat → Prop) (ls : Array Slot) (H : Heap) (locs : List Loc),
      p.tables.exec = Jvm.exec → c.code = cc → c.maxLocals = maxL → s.vm.findClass y.cls = some m.cls → (∀ w ∈ wsL_law, w.before args s = true) → x_K g s → x_Ext g A s s.heap → va_P g.1 vwCl w H → va_D A w → va_S A s.heap H locs → (∀ q, s.heap.size ≤ q → A q) → lv_has ls maxL (lv_args 0 as) →
      (∀ (v : Int32) (u : S) (H : Heap) (locs : List Loc) (pc : Nat) (ls : Array Slot), post v u → narrow ty (.int v) = .int v → va_P g.1 vwCl (w' u) H → va_D A (w' u) → va_S A s.heap H locs → decode cc pc = .ok (.ireturn, 1) → W p l e rm s m args below meth c H locs 0 0 Q (F0 m pc ls [.int v])) →
      W p l e rm s m args below meth c H locs 0 0 Q (F0 m 0 ls [])) : x_MetI l y ws rm g as w post w' := by
  intro sz
  refine Met.ofW (cc := cc) (maxL := maxL) (ret := some ty) hy hw ?_
  intro p e s m args below meth c s₁ B hml hv
  obtain ⟨rfl, hsz, hP, hK, hD0, hX⟩ := hv
  subst hsz
  obtain ⟨ls, he, hl⟩ := x_entry (m := m) as hn
  rw [he]
  have hr := B.returns
  have hlocks := B.notSynchronized
  refine body p e s m _ below meth c _ (va_A w s.heap.size) ls s.heap [] B.exec B.bytes hml (findClass_of_methodNamed B.named) (fun w h => atoms_spec (ws := ws) B.pre w (by rw [hw]; exact List.mem_cons_of_mem _ h)) hK hX hP hD0.self va_S.rf (fun q h => Or.inr h) hl ?_
  intro v u H locs pc ls hpost hnar hP hD hS hdg
  exact W.zret (ty := ty) B.exec B.bytes hr hnar (fun t ht hW => ⟨⟨v, u, rfl, hpost, by rw [← ht] at hP; exact hP, hD⟩, hS.F ht⟩) hS.2.2 hdg
theorem x_startR {l : Launch} {y : MethodName} {ws : List Cond} {rm : Room} {g : x_G} {as : List Value} {ad : Nat} {cc : ByteArray} {maxL : Nat} {ty : FieldType}
    (hy : plainName y.cls = true) (hw : ws = Cond.code y cc maxL (some ty) :: wsL_law) (hn : (lg_sl as).length ≤ maxL) (hnar : (∃ n, ty = FieldType.object n) ∨ ∃ t, ty = FieldType.array t)
    (body : ∀ (p : Program) (e : Env) (s : State) (m : MethodId) (args : Array Value) (below : List Frame) (meth : Method) (c : Code) (Q : State → Prop) (A : Nat → Prop) (ls : Array Slot) (H : Heap) (locs : List Loc),
      p.tables.exec = Jvm.exec → c.code = cc → c.maxLocals = maxL → s.vm.findClass y.cls = some m.cls → (∀ w ∈ wsL_law, w.before args s = true) → x_K g s → x_Ext g A s s.heap → va_P g.1 vwCl [] H → va_D A [] → va_S A s.heap H locs → (∀ q, s.heap.size ≤ q → A q) → lv_has ls maxL (lv_args 0 as) →
      (∀ (H : Heap) (locs : List Loc) (pc : Nat) (ls : Array Slot), va_P g.1 vwCl [] H → va_D A [] → va_S A s.heap H locs → decode cc pc = .ok (.areturn, 1) → W p l e rm s m args below meth c H locs 0 0 Q (F0 m pc ls [.ref ad])) →
      W p l e rm s m args below meth c H locs 0 0 Q (F0 m 0 ls [])) : x_MetR l y ws rm g as ad := by
  intro sz
  refine Met.ofW (cc := cc) (maxL := maxL) (ret := some ty) hy hw ?_
  intro p e s m args below meth c s₁ B hml hv
  obtain ⟨rfl, hsz, hP, hK, hD0, hX⟩ := hv
  subst hsz
  obtain ⟨ls, he, hl⟩ := x_entry (m := m) as hn
  rw [he]
  have hr := B.returns
  have hlocks := B.notSynchronized
  refine body p e s m _ below meth c _ (va_A [] s.heap.size) ls s.heap [] B.exec B.bytes hml (findClass_of_methodNamed B.named) (fun w h => atoms_spec (ws := ws) B.pre w (by rw [hw]; exact List.mem_cons_of_mem _ h)) hK hX hP hD0.self va_S.rf (fun q h => Or.inr h) hl ?_
  intro H locs pc ls hP hD hS hdg
  exact W.aret (v := .ref ad) (rt := ty) B.exec B.bytes hr hnar (Or.inr ⟨ad, rfl⟩) (fun t ht hW => ⟨⟨(), ad, rfl, trivial, rfl, by rw [← ht] at hP; exact hP⟩, hS.F ht⟩) hS.2.2 hdg
theorem x_startL {l : Launch} {y : MethodName} {ws : List Cond} {rm : Room} {g : x_G} {as : List Value} {w : va_W} {S : Type} {post : Int64 → S → Prop} {w' : S → va_W} {cc : ByteArray} {maxL : Nat}
    (hy : plainName y.cls = true) (hw : ws = Cond.code y cc maxL (some .long) :: wsL_law) (hn : (lg_sl as).length ≤ maxL)
    (body : ∀ (p : Program) (e : Env) (s : State) (m : MethodId) (args : Array Value) (below : List Frame) (meth : Method) (c : Code) (Q : State → Prop) (A : Nat → Prop) (ls : Array Slot) (H : Heap) (locs : List Loc),
      p.tables.exec = Jvm.exec → c.code = cc → c.maxLocals = maxL → s.vm.findClass y.cls = some m.cls → (∀ w ∈ wsL_law, w.before args s = true) → x_K g s → x_Ext g A s s.heap → va_P g.1 vwCl w H → va_D A w → va_S A s.heap H locs → (∀ q, s.heap.size ≤ q → A q) → lv_has ls maxL (lv_args 0 as) →
      (∀ (v : Int64) (u : S) (H : Heap) (locs : List Loc) (pc : Nat) (ls : Array Slot), post v u → va_P g.1 vwCl (w' u) H → va_D A (w' u) → va_S A s.heap H locs → decode cc pc = .ok (.lreturn, 1) → W p l e rm s m args below meth c H locs 0 0 Q (F0 m pc ls [.long v])) →
      W p l e rm s m args below meth c H locs 0 0 Q (F0 m 0 ls [])) : x_MetL l y ws rm g as w post w' := by
  intro sz
  refine Met.ofW (cc := cc) (maxL := maxL) (ret := some .long) hy hw ?_
  intro p e s m args below meth c s₁ B hml hv
  obtain ⟨rfl, hsz, hP, hK, hD0, hX⟩ := hv
  subst hsz
  obtain ⟨ls, he, hl⟩ := x_entry (m := m) as hn
  rw [he]
  have hr := B.returns
  have hlocks := B.notSynchronized
  refine body p e s m _ below meth c _ (va_A w s.heap.size) ls s.heap [] B.exec B.bytes hml (findClass_of_methodNamed B.named) (fun w h => atoms_spec (ws := ws) B.pre w (by rw [hw]; exact List.mem_cons_of_mem _ h)) hK hX hP hD0.self va_S.rf (fun q h => Or.inr h) hl ?_
  intro v u H locs pc ls hpost hP hD hS hdg
  exact W.lret B.exec B.bytes hr (fun t ht hW => ⟨⟨v, u, rfl, hpost, by rw [← ht] at hP; exact hP, hD⟩, hS.F ht⟩) hS.2.2 hdg
theorem x_startV {l : Launch} {y : MethodName} {ws : List Cond} {rm : Room} {g : x_G} {as : List Value} {w : va_W} {S : Type} {post : S → Prop} {w' : S → va_W} {cc : ByteArray} {maxL : Nat}
    (hy : plainName y.cls = true) (hw : ws = Cond.code y cc maxL none :: wsL_law) (hn : (lg_sl as).length ≤ maxL)
    (body : ∀ (p : Program) (e : Env) (s : State) (m : MethodId) (args : Array Value) (below : List Frame) (meth : Method) (c : Code) (Q : State → Prop) (A : Nat → Prop) (ls : Array Slot) (H : Heap) (locs : List Loc),
      p.tables.exec = Jvm.exec → c.code = cc → c.maxLocals = maxL → s.vm.findClass y.cls = some m.cls → (∀ w ∈ wsL_law, w.before args s = true) → x_K g s → x_Ext g A s s.heap → va_P g.1 vwCl w H → va_D A w → va_S A s.heap H locs → (∀ q, s.heap.size ≤ q → A q) → lv_has ls maxL (lv_args 0 as) →
      (∀ (u : S) (H : Heap) (locs : List Loc) (pc : Nat) (ls : Array Slot), post u → va_P g.1 vwCl (w' u) H → va_D A (w' u) → va_S A s.heap H locs → decode cc pc = .ok (.return_, 1) → W p l e rm s m args below meth c H locs 0 0 Q (F0 m pc ls [])) →
      W p l e rm s m args below meth c H locs 0 0 Q (F0 m 0 ls [])) : x_MetV l y ws rm g as w post w' := by
  intro sz
  refine Met.ofW (cc := cc) (maxL := maxL) (ret := none) hy hw ?_
  intro p e s m args below meth c s₁ B hml hv
  obtain ⟨rfl, hsz, hP, hK, hD0, hX⟩ := hv
  subst hsz
  obtain ⟨ls, he, hl⟩ := x_entry (m := m) as hn
  rw [he]
  have hr := B.returns
  have hlocks := B.notSynchronized
  refine body p e s m _ below meth c _ (va_A w s.heap.size) ls s.heap [] B.exec B.bytes hml (findClass_of_methodNamed B.named) (fun w h => atoms_spec (ws := ws) B.pre w (by rw [hw]; exact List.mem_cons_of_mem _ h)) hK hX hP hD0.self va_S.rf (fun q h => Or.inr h) hl ?_
  intro u H locs pc ls hpost hP hD hS hdg
  exact W.vret B.exec B.bytes hr (fun t ht hW => ⟨⟨u, rfl, hpost, by rw [← ht] at hP; exact hP, hD⟩, hS.F ht⟩) hS.2.2 hdg
section XC
variable {p : Program} {l : Launch} {e : Env} {R : Room} {s : State} {m : MethodId} {args : Array Value} {below : List Frame} {meth : Method} {c : Code} {H : Heap} {locs : List Loc} {cells slots : Nat} {Q : State → Prop}
variable {pc : Nat} {ls : Array Slot} {A : Nat → Prop} {g : x_G} {cc bytes : ByteArray} {nL maxL n index : Nat} {own C host : String} {y : MethodName} {ws Ts : List Cond} {rm : Room} {w0 wc wr : va_W} {ret : Option FieldType} {b : Nat} {As st0 rest : List Value}
/-- behind a call: the cells in their order again -/
theorem x_join {S : Type} {w' w2 : S → va_W} {H1 : Heap} {u : S} (isC isR isF : List Nat) (hP : va_P g.1 vwCl w0 H) (hD : va_D A w0) (hC : isC.map (fun i => w0[i]?) = wc.map some) (hR : isR.map (fun i => w0[i]?) = wr.map some) (hn : va_nd isR = true) (hdis : ∀ i ∈ isR, i ∉ isC) (hF : ∀ q, va_A wc H.size q → A q)
    (hk : ∀ q : Nat, q < H.size → ¬ va_A wc H.size q → H1[q]? = H[q]?) (hP1 : va_P g.1 vwCl (w' u) H1) (hD1 : va_D (va_A wc H.size) (w' u)) (hw2 : isF.map (fun i => (wr ++ w' u)[i]?) = (w2 u).map some) (hnF : va_nd isF = true) : va_P g.1 vwCl (w2 u) H1 ∧ va_D A (w2 u) := by
  obtain ⟨h1, h2⟩ := va_join hP hD isC isR hC hR hn hdis hk hF hP1 hD1
  refine ⟨?_, h2.sub isF hnF hw2⟩
  intro k q hk2
  have h3 : (isF.map (fun i => (wr ++ w' u)[i]?))[k]? = some (some q) := by rw [hw2, List.getElem?_map, hk2]; rfl
  rw [List.getElem?_map] at h3
  cases hi : isF[k]? with
  | none => rw [hi] at h3; cases h3
  | some i => rw [hi] at h3; exact h1 i q (Option.some.inj h3)
theorem x_cut (isC : List Nat) (hP : va_P g.1 vwCl w0 H) (hC : isC.map (fun i => w0[i]?) = wc.map some) : va_P g.1 vwCl wc H := by
  intro k q hk2
  have h3 : (isC.map (fun i => w0[i]?))[k]? = some (some q) := by rw [hC, List.getElem?_map, hk2]; rfl
  rw [List.getElem?_map] at h3
  cases hi : isC[k]? with
  | none => rw [hi] at h3; cases h3
  | some i => rw [hi] at h3; exact hP i q (Option.some.inj h3)
/-- what every call's start needs -/
theorem x_pre (isC : List Nat) (hK : x_K g s) (hX : x_Ext g A s s.heap) (hS : va_S A s.heap H locs) (hF : ∀ q, va_A wc H.size q → A q) (hP : va_P g.1 vwCl w0 H) (hD : va_D A w0) (hC : isC.map (fun i => w0[i]?) = wc.map some) (hnC : va_nd isC = true) (as : List Value) : ∀ U : State, U.heap = H → s.WarmedH U.vm → va_Pc as (x_Pre g wc H.size) as.toArray U :=
  fun U hU hW => ⟨rfl, by rw [hU], by rw [hU]; exact x_cut isC hP hC, hK.warm hW, (hD.sub isC hnC hC).weaken (fun _ _ _ _ => trivial), by rw [hU]; exact ((hX.kept hS.2.1).narrow hF).moved hW.alike⟩
theorem x_recv (hK : x_K g s) (hP : va_P g.1 vwCl w0 H) (q0 ci : Nat) {q : vw_C} {fs : List Value} (hc : vwCl[ci]? = some q) (hq : q.1 = C) (he : w0[q0]? = some (b, .inr (ci, fs))) : ∃ cell : Cell, H[b]? = some cell ∧ cell.vm.isStatics = false ∧ s.vm.findClass C = some cell.cls := by
  subst hq
  exact va_recv hK.1 hP hc he
theorem x_callVi {S : Type} {post : Int32 → S → Prop} {w' w2 : S → va_W} (isC isR isF : List Nat) (q0 ci : Nat) {q : vw_C} {fs : List Value} (X : CallFix p m c cc nL s args Ts own) (hK : x_K g s) (hX : x_Ext g A s s.heap) (hP : va_P g.1 vwCl w0 H) (hD : va_D A w0) (hS : va_S A s.heap H locs) (hA : ∀ q, s.heap.size ≤ q → A q)
    (hM : x_MetI l y ws rm g (.ref b :: As) wc post w') (cw : CallW R s args own C index y bytes maxL ret ws rm 0 0 n) (hc : vwCl[ci]? = some q) (hq : q.1 = C) (he : w0[q0]? = some (b, .inr (ci, fs)))
    (hC : isC.map (fun i => w0[i]?) = wc.map some) (hR : isR.map (fun i => w0[i]?) = wr.map some) (hnC : va_nd isC = true) (hnR : va_nd isR = true) (hdis : ∀ i ∈ isR, i ∉ isC) (hw2 : ∀ u, isF.map (fun i => (wr ++ w' u)[i]?) = (w2 u).map some) (hnF : va_nd isF = true)
    (hn : As.length = n) (hls : ls.size = nL) (hst : st0 = As.reverse ++ .ref b :: rest) (h8 : (rest.map fun v => v.category).sum ≤ 8) (hdg : decode cc pc = .ok (.invokevirtual index, 3)) (hf : cells ≤ R.cells ∧ slots ≤ R.slots)
    (kk : ∀ (r : Int32) (u : S) (H1 : Heap) (locs1 : List Loc), post r u → va_P g.1 vwCl (w2 u) H1 → va_D A (w2 u) → va_S A s.heap H1 locs1 → W p l e R s m args below meth c H1 locs1 cells slots Q (F0 m (pc + 3) ls (.int r :: rest))) : W p l e R s m args below meth c H locs cells slots Q (F0 m pc ls st0) := by
  have hF := va_free (wc := wc) hD hS hA isC hC
  refine va_calli (va_runV (As := As) (rest := rest) X (hM H.size) cw ⟨x_blind g _ _ _, x_recv hK hP q0 ci hc hq he, x_pre isC hK hX hS hF hP hD hC hnC _⟩ rfl hn hls hst (lv_room h8) hdg hf) hS (fun q _ h => hF q h) hF (fun r u t H1 locs1 ht hvm hw hB hz1 hk1 hS1 => ?_)
  obtain ⟨hP1, hD1⟩ := hB
  rw [ht] at hP1
  obtain ⟨h1, h2⟩ := x_join (w2 := w2) isC isR isF hP hD hC hR hnR hdis hF hk1 hP1 hD1 (hw2 u) hnF
  exact kk r u H1 locs1 hw h1 h2 hS1
theorem x_callVl {S : Type} {post : Int64 → S → Prop} {w' w2 : S → va_W} (isC isR isF : List Nat) (q0 ci : Nat) {q : vw_C} {fs : List Value} (X : CallFix p m c cc nL s args Ts own) (hK : x_K g s) (hX : x_Ext g A s s.heap) (hP : va_P g.1 vwCl w0 H) (hD : va_D A w0) (hS : va_S A s.heap H locs) (hA : ∀ q, s.heap.size ≤ q → A q)
    (hM : x_MetL l y ws rm g (.ref b :: As) wc post w') (cw : CallW R s args own C index y bytes maxL ret ws rm 0 0 n) (hc : vwCl[ci]? = some q) (hq : q.1 = C) (he : w0[q0]? = some (b, .inr (ci, fs)))
    (hC : isC.map (fun i => w0[i]?) = wc.map some) (hR : isR.map (fun i => w0[i]?) = wr.map some) (hnC : va_nd isC = true) (hnR : va_nd isR = true) (hdis : ∀ i ∈ isR, i ∉ isC) (hw2 : ∀ u, isF.map (fun i => (wr ++ w' u)[i]?) = (w2 u).map some) (hnF : va_nd isF = true)
    (hn : As.length = n) (hls : ls.size = nL) (hst : st0 = As.reverse ++ .ref b :: rest) (h8 : (rest.map fun v => v.category).sum ≤ 8) (hdg : decode cc pc = .ok (.invokevirtual index, 3)) (hf : cells ≤ R.cells ∧ slots ≤ R.slots)
    (kk : ∀ (r : Int64) (u : S) (H1 : Heap) (locs1 : List Loc), post r u → va_P g.1 vwCl (w2 u) H1 → va_D A (w2 u) → va_S A s.heap H1 locs1 → W p l e R s m args below meth c H1 locs1 cells slots Q (F0 m (pc + 3) ls (.long r :: rest))) : W p l e R s m args below meth c H locs cells slots Q (F0 m pc ls st0) := by
  have hF := va_free (wc := wc) hD hS hA isC hC
  refine va_calll (va_runV (As := As) (rest := rest) X (hM H.size) cw ⟨x_blind g _ _ _, x_recv hK hP q0 ci hc hq he, x_pre isC hK hX hS hF hP hD hC hnC _⟩ rfl hn hls hst (lv_room h8) hdg hf) hS (fun q _ h => hF q h) hF (fun r u t H1 locs1 ht hvm hw hB hz1 hk1 hS1 => ?_)
  obtain ⟨hP1, hD1⟩ := hB
  rw [ht] at hP1
  obtain ⟨h1, h2⟩ := x_join (w2 := w2) isC isR isF hP hD hC hR hnR hdis hF hk1 hP1 hD1 (hw2 u) hnF
  exact kk r u H1 locs1 hw h1 h2 hS1
theorem x_callVv {S : Type} {post : S → Prop} {w' w2 : S → va_W} (isC isR isF : List Nat) (q0 ci : Nat) {q : vw_C} {fs : List Value} (X : CallFix p m c cc nL s args Ts own) (hK : x_K g s) (hX : x_Ext g A s s.heap) (hP : va_P g.1 vwCl w0 H) (hD : va_D A w0) (hS : va_S A s.heap H locs) (hA : ∀ q, s.heap.size ≤ q → A q)
    (hM : x_MetV l y ws rm g (.ref b :: As) wc post w') (cw : CallW R s args own C index y bytes maxL ret ws rm 0 0 n) (hc : vwCl[ci]? = some q) (hq : q.1 = C) (he : w0[q0]? = some (b, .inr (ci, fs)))
    (hC : isC.map (fun i => w0[i]?) = wc.map some) (hR : isR.map (fun i => w0[i]?) = wr.map some) (hnC : va_nd isC = true) (hnR : va_nd isR = true) (hdis : ∀ i ∈ isR, i ∉ isC) (hw2 : ∀ u, isF.map (fun i => (wr ++ w' u)[i]?) = (w2 u).map some) (hnF : va_nd isF = true)
    (hn : As.length = n) (hls : ls.size = nL) (hst : st0 = As.reverse ++ .ref b :: rest) (h8 : (rest.map fun v => v.category).sum ≤ 8) (hdg : decode cc pc = .ok (.invokevirtual index, 3)) (hf : cells ≤ R.cells ∧ slots ≤ R.slots)
    (kk : ∀ (u : S) (H1 : Heap) (locs1 : List Loc), post u → va_P g.1 vwCl (w2 u) H1 → va_D A (w2 u) → va_S A s.heap H1 locs1 → W p l e R s m args below meth c H1 locs1 cells slots Q (F0 m (pc + 3) ls rest)) : W p l e R s m args below meth c H locs cells slots Q (F0 m pc ls st0) := by
  have hF := va_free (wc := wc) hD hS hA isC hC
  refine va_callv (va_runV (As := As) (rest := rest) X (hM H.size) cw ⟨x_blind g _ _ _, x_recv hK hP q0 ci hc hq he, x_pre isC hK hX hS hF hP hD hC hnC _⟩ rfl hn hls hst (lv_room h8) hdg hf) hS (fun q _ h => hF q h) hF (fun u t H1 locs1 ht hvm hw hB hz1 hk1 hS1 => ?_)
  obtain ⟨hP1, hD1⟩ := hB
  rw [ht] at hP1
  obtain ⟨h1, h2⟩ := x_join (w2 := w2) isC isR isF hP hD hC hR hnR hdis hF hk1 hP1 hD1 (hw2 u) hnF
  exact kk u H1 locs1 hw h1 h2 hS1
theorem x_callSi {S : Type} {post : Int32 → S → Prop} {w' w2 : S → va_W} (isC isR isF : List Nat) (X : CallFix p m c cc nL s args Ts own) (hK : x_K g s) (hX : x_Ext g A s s.heap) (hP : va_P g.1 vwCl w0 H) (hD : va_D A w0) (hS : va_S A s.heap H locs) (hA : ∀ q, s.heap.size ≤ q → A q)
    (hM : x_MetI l y ws rm g As wc post w') (cw : CallB R s args own index y bytes maxL ret ws rm 0 0 n ∧ (Cond.static y).before args s = true)
    (hC : isC.map (fun i => w0[i]?) = wc.map some) (hR : isR.map (fun i => w0[i]?) = wr.map some) (hnC : va_nd isC = true) (hnR : va_nd isR = true) (hdis : ∀ i ∈ isR, i ∉ isC) (hw2 : ∀ u, isF.map (fun i => (wr ++ w' u)[i]?) = (w2 u).map some) (hnF : va_nd isF = true)
    (hn : As.length = n) (hls : ls.size = nL) (hst : st0 = As.reverse ++ rest) (h8 : (rest.map fun v => v.category).sum ≤ 8) (hdg : decode cc pc = .ok (.invokestatic index, 3)) (hf : cells ≤ R.cells ∧ slots ≤ R.slots)
    (kk : ∀ (r : Int32) (u : S) (H1 : Heap) (locs1 : List Loc), post r u → va_P g.1 vwCl (w2 u) H1 → va_D A (w2 u) → va_S A s.heap H1 locs1 → W p l e R s m args below meth c H1 locs1 cells slots Q (F0 m (pc + 3) ls (.int r :: rest))) : W p l e R s m args below meth c H locs cells slots Q (F0 m pc ls st0) := by
  have hF := va_free (wc := wc) hD hS hA isC hC
  refine va_calli (va_runS (As := As) (rest := rest) X (hM H.size) cw ⟨x_blind g _ _ _, x_pre isC hK hX hS hF hP hD hC hnC _⟩ rfl hn hls hst (lv_room h8) hdg hf) hS (fun q _ h => hF q h) hF (fun r u t H1 locs1 ht hvm hw hB hz1 hk1 hS1 => ?_)
  obtain ⟨hP1, hD1⟩ := hB
  rw [ht] at hP1
  obtain ⟨h1, h2⟩ := x_join (w2 := w2) isC isR isF hP hD hC hR hnR hdis hF hk1 hP1 hD1 (hw2 u) hnF
  exact kk r u H1 locs1 hw h1 h2 hS1
theorem x_callNi {S : Type} {post : Int32 → S → Prop} {w' w2 : S → va_W} (isC isR isF : List Nat) (X : CallFix p m c cc nL s args Ts own) (hK : x_K g s) (hX : x_Ext g A s s.heap) (hP : va_P g.1 vwCl w0 H) (hD : va_D A w0) (hS : va_S A s.heap H locs) (hA : ∀ q, s.heap.size ≤ q → A q)
    (hM : x_MetI l y ws rm g As wc post w') (cw : va_CN R s args own index y host bytes maxL ret ws rm 0 0 n ∧ (Cond.static y).before args s = true ∧ True)
    (hC : isC.map (fun i => w0[i]?) = wc.map some) (hR : isR.map (fun i => w0[i]?) = wr.map some) (hnC : va_nd isC = true) (hnR : va_nd isR = true) (hdis : ∀ i ∈ isR, i ∉ isC) (hw2 : ∀ u, isF.map (fun i => (wr ++ w' u)[i]?) = (w2 u).map some) (hnF : va_nd isF = true)
    (hn : As.length = n) (hls : ls.size = nL) (hst : st0 = As.reverse ++ rest) (h8 : (rest.map fun v => v.category).sum ≤ 8) (hdg : decode cc pc = .ok (.invokestatic index, 3)) (hf : cells ≤ R.cells ∧ slots ≤ R.slots)
    (kk : ∀ (r : Int32) (u : S) (H1 : Heap) (locs1 : List Loc), post r u → va_P g.1 vwCl (w2 u) H1 → va_D A (w2 u) → va_S A s.heap H1 locs1 → W p l e R s m args below meth c H1 locs1 cells slots Q (F0 m (pc + 3) ls (.int r :: rest))) : W p l e R s m args below meth c H locs cells slots Q (F0 m pc ls st0) := by
  have hF := va_free (wc := wc) hD hS hA isC hC
  refine va_calli (va_runSN (As := As) (rest := rest) X (hM H.size) cw ⟨x_blind g _ _ _, x_pre isC hK hX hS hF hP hD hC hnC _⟩ rfl hn hls hst (lv_room h8) hdg hf) hS (fun q _ h => hF q h) hF (fun r u t H1 locs1 ht hvm hw hB hz1 hk1 hS1 => ?_)
  obtain ⟨hP1, hD1⟩ := hB
  rw [ht] at hP1
  obtain ⟨h1, h2⟩ := x_join (w2 := w2) isC isR isF hP hD hC hR hnR hdis hF hk1 hP1 hD1 (hw2 u) hnF
  exact kk r u H1 locs1 hw h1 h2 hS1
theorem x_eqi {x y : Int32} (h : x = y) (k : W p l e R s m args below meth c H locs cells slots Q (F0 m pc ls (.int y :: rest))) : W p l e R s m args below meth c H locs cells slots Q (F0 m pc ls (.int x :: rest)) := by subst h; exact k
-- comparisons of counters
theorem x_icmp_ge {a b : Nat} (hx : p.tables.exec = Jvm.exec) (hb : c.code = cc) (ha : a < 2 ^ 31) (hb2 : b < 2 ^ 31) {off : Int} {tgt : Nat} (hdg : decode cc pc = .ok (.if_icmp .ge off, 3)) (ht : (pc : Int) + off = (tgt : Int)) (kt : b ≤ a → W p l e R s m args below meth c H locs cells slots Q (F0 m tgt ls rest)) (kf : ¬ b ≤ a → W p l e R s m args below meth c H locs cells slots Q (F0 m (pc + 3) ls rest)) : W p l e R s m args below meth c H locs cells slots Q (F0 m pc ls (.int (nI b) :: .int (nI a) :: rest)) :=
  lv_icmp_ge hx hb hdg ht (fun q => kt ((nI_leI hb2 ha).mp q)) (fun q => kf (fun z => q ((nI_leI hb2 ha).mpr z)))
theorem x_icmp_le {a b : Nat} (hx : p.tables.exec = Jvm.exec) (hb : c.code = cc) (ha : a < 2 ^ 31) (hb2 : b < 2 ^ 31) {off : Int} {tgt : Nat} (hdg : decode cc pc = .ok (.if_icmp .le off, 3)) (ht : (pc : Int) + off = (tgt : Int)) (kt : a ≤ b → W p l e R s m args below meth c H locs cells slots Q (F0 m tgt ls rest)) (kf : ¬ a ≤ b → W p l e R s m args below meth c H locs cells slots Q (F0 m (pc + 3) ls rest)) : W p l e R s m args below meth c H locs cells slots Q (F0 m pc ls (.int (nI b) :: .int (nI a) :: rest)) :=
  lv_icmp_le hx hb hdg ht (fun q => kt ((nI_leI ha hb2).mp q)) (fun q => kf (fun z => q ((nI_leI ha hb2).mpr z)))
theorem x_icmp_gt {a b : Nat} (hx : p.tables.exec = Jvm.exec) (hb : c.code = cc) (ha : a < 2 ^ 31) (hb2 : b < 2 ^ 31) {off : Int} {tgt : Nat} (hdg : decode cc pc = .ok (.if_icmp .gt off, 3)) (ht : (pc : Int) + off = (tgt : Int)) (kt : b < a → W p l e R s m args below meth c H locs cells slots Q (F0 m tgt ls rest)) (kf : ¬ b < a → W p l e R s m args below meth c H locs cells slots Q (F0 m (pc + 3) ls rest)) : W p l e R s m args below meth c H locs cells slots Q (F0 m pc ls (.int (nI b) :: .int (nI a) :: rest)) :=
  lv_icmp_gt hx hb hdg ht (fun q => kt ((nI_ltI hb2 ha).mp q)) (fun q => kf (fun z => q ((nI_ltI hb2 ha).mpr z)))
theorem x_icmp_lt {a b : Nat} (hx : p.tables.exec = Jvm.exec) (hb : c.code = cc) (ha : a < 2 ^ 31) (hb2 : b < 2 ^ 31) {off : Int} {tgt : Nat} (hdg : decode cc pc = .ok (.if_icmp .lt off, 3)) (ht : (pc : Int) + off = (tgt : Int)) (kt : a < b → W p l e R s m args below meth c H locs cells slots Q (F0 m tgt ls rest)) (kf : ¬ a < b → W p l e R s m args below meth c H locs cells slots Q (F0 m (pc + 3) ls rest)) : W p l e R s m args below meth c H locs cells slots Q (F0 m pc ls (.int (nI b) :: .int (nI a) :: rest)) :=
  lv_icmp_lt hx hb hdg ht (fun q => kt ((nI_ltI ha hb2).mp q)) (fun q => kf (fun z => q ((nI_ltI ha hb2).mpr z)))
theorem x_icmp_eq {a b : Nat} (hx : p.tables.exec = Jvm.exec) (hb : c.code = cc) (ha : a < 2 ^ 31) (hb2 : b < 2 ^ 31) {off : Int} {tgt : Nat} (hdg : decode cc pc = .ok (.if_icmp .eq off, 3)) (ht : (pc : Int) + off = (tgt : Int)) (kt : a = b → W p l e R s m args below meth c H locs cells slots Q (F0 m tgt ls rest)) (kf : ¬ a = b → W p l e R s m args below meth c H locs cells slots Q (F0 m (pc + 3) ls rest)) : W p l e R s m args below meth c H locs cells slots Q (F0 m pc ls (.int (nI b) :: .int (nI a) :: rest)) :=
  lv_icmp_eq hx hb hdg ht (fun q => kt ((nI_eq ha hb2).mp q)) (fun q => kf (fun z => q ((nI_eq ha hb2).mpr z)))
theorem x_icmp_ne {a b : Nat} (hx : p.tables.exec = Jvm.exec) (hb : c.code = cc) (ha : a < 2 ^ 31) (hb2 : b < 2 ^ 31) {off : Int} {tgt : Nat} (hdg : decode cc pc = .ok (.if_icmp .ne off, 3)) (ht : (pc : Int) + off = (tgt : Int)) (kt : ¬ a = b → W p l e R s m args below meth c H locs cells slots Q (F0 m tgt ls rest)) (kf : a = b → W p l e R s m args below meth c H locs cells slots Q (F0 m (pc + 3) ls rest)) : W p l e R s m args below meth c H locs cells slots Q (F0 m pc ls (.int (nI b) :: .int (nI a) :: rest)) :=
  lv_icmp_ne hx hb hdg ht (fun q => kt (fun z => q ((nI_eq ha hb2).mpr z))) (fun q => kf ((nI_eq ha hb2).mp q))
-- array elements
theorem x_iald (hx : p.tables.exec = Jvm.exec) (hb : c.code = cc) (hK : x_K g s) (hP : va_P g.1 vwCl w0 H) (q0 : Nat) {a n : Nat} {f : Nat → Int32} (ha : w0[q0]? = some (a, .inl (g.2.1 0, n, .inl f))) {i : Int32} (hin : vp_in i n) (hdg : decode cc pc = .ok (.iaload, 1)) (kk : W p l e R s m args below meth c H locs cells slots Q (F0 m (pc + 1) ls (.int (f i.toNatClampNeg) :: rest))) : W p l e R s m args below meth c H locs cells slots Q (F0 m pc ls (.int i :: .ref a :: rest)) :=
  va_iald hx hb hK.1 hP q0 0 ha rfl hin hdg kk
theorem x_ialdN (hx : p.tables.exec = Jvm.exec) (hb : c.code = cc) (hK : x_K g s) (hP : va_P g.1 vwCl w0 H) (q0 k : Nat) {a n : Nat} {f : Nat → Int32} (ha : w0[q0]? = some (a, .inl (g.2.1 0, n, .inl f))) (hk : k < n) (hn : n < 2 ^ 31) (hdg : decode cc pc = .ok (.iaload, 1)) (kk : W p l e R s m args below meth c H locs cells slots Q (F0 m (pc + 1) ls (.int (f k) :: rest))) : W p l e R s m args below meth c H locs cells slots Q (F0 m pc ls (.int (nI k) :: .ref a :: rest)) := by
  refine x_iald hx hb hK hP q0 ha (vp_in_nI hk hn) hdg ?_
  rw [nI_clamp (by omega)]
  exact kk
theorem x_zaldN (hx : p.tables.exec = Jvm.exec) (hb : c.code = cc) (hK : x_K g s) (hP : va_P g.1 vwCl w0 H) (q0 k : Nat) {a n : Nat} {f : Nat → Int32} (ha : w0[q0]? = some (a, .inl (g.2.1 1, n, .inl f))) (hk : k < n) (hn : n < 2 ^ 31) (hdg : decode cc pc = .ok (.baload, 1)) (kk : W p l e R s m args below meth c H locs cells slots Q (F0 m (pc + 1) ls (.int (f k) :: rest))) : W p l e R s m args below meth c H locs cells slots Q (F0 m pc ls (.int (nI k) :: .ref a :: rest)) := by
  refine va_zald hx hb hK.1 hP q0 1 ha rfl (vp_in_nI hk hn) hdg ?_
  rw [nI_clamp (by omega)]
  exact kk
theorem x_baldN (hx : p.tables.exec = Jvm.exec) (hb : c.code = cc) (hK : x_K g s) (hP : va_P g.1 vwCl w0 H) (q0 k : Nat) {a n : Nat} {f : Nat → Int32} (ha : w0[q0]? = some (a, .inl (g.2.1 2, n, .inl f))) (hk : k < n) (hn : n < 2 ^ 31) (hdg : decode cc pc = .ok (.baload, 1)) (kk : W p l e R s m args below meth c H locs cells slots Q (F0 m (pc + 1) ls (.int (f k) :: rest))) : W p l e R s m args below meth c H locs cells slots Q (F0 m pc ls (.int (nI k) :: .ref a :: rest)) := by
  refine va_bald hx hb hK.1 hP q0 2 ha rfl (vp_in_nI hk hn) hdg ?_
  rw [nI_clamp (by omega)]
  exact kk
theorem x_iastN (hx : p.tables.exec = Jvm.exec) (hb : c.code = cc) (hK : x_K g s) (hP : va_P g.1 vwCl w0 H) (hD : va_D A w0) {H0 : Heap} (hS : va_S A H0 H locs) (q0 k : Nat) {a n : Nat} {f : Nat → Int32} (ha : w0[q0]? = some (a, .inl (g.2.1 0, n, .inl f))) {x : Int32} (hk : k < n) (hn : n < 2 ^ 31) (hdg : decode cc pc = .ok (.iastore, 1))
    (kk : ∀ (f1 : Nat → Int32) (H1 : Heap) (locs1 : List Loc), f1 = upd f k x → va_P g.1 vwCl (w0.set q0 (a, .inl (g.2.1 0, n, .inl f1))) H1 → va_D A (w0.set q0 (a, .inl (g.2.1 0, n, .inl f1))) → va_S A H0 H1 locs1 → W p l e R s m args below meth c H1 locs1 cells slots Q (F0 m (pc + 1) ls rest)) : W p l e R s m args below meth c H locs cells slots Q (F0 m pc ls (.int x :: .int (nI k) :: .ref a :: rest)) := by
  refine va_iast hx hb hK.1 hP hD hS q0 0 ha rfl (vp_in_nI hk hn) hdg ?_
  rw [nI_clamp (by omega)]
  exact fun H1 locs1 h1 h2 h3 => kk _ H1 locs1 rfl h1 h2 h3
theorem x_zastN (hx : p.tables.exec = Jvm.exec) (hb : c.code = cc) (hK : x_K g s) (hP : va_P g.1 vwCl w0 H) (hD : va_D A w0) {H0 : Heap} (hS : va_S A H0 H locs) (q0 k : Nat) {a n : Nat} {f : Nat → Int32} (ha : w0[q0]? = some (a, .inl (g.2.1 1, n, .inl f))) {x : Int32} (hk : k < n) (hn : n < 2 ^ 31) (hdg : decode cc pc = .ok (.bastore, 1)) (hx0 : vp_nar .boolean x = x)
    (kk : ∀ (f1 : Nat → Int32) (H1 : Heap) (locs1 : List Loc), f1 = upd f k x → va_P g.1 vwCl (w0.set q0 (a, .inl (g.2.1 1, n, .inl f1))) H1 → va_D A (w0.set q0 (a, .inl (g.2.1 1, n, .inl f1))) → va_S A H0 H1 locs1 → W p l e R s m args below meth c H1 locs1 cells slots Q (F0 m (pc + 1) ls rest)) : W p l e R s m args below meth c H locs cells slots Q (F0 m pc ls (.int x :: .int (nI k) :: .ref a :: rest)) := by
  refine va_zast hx hb hK.1 hP hD hS q0 1 ha rfl (vp_in_nI hk hn) hdg ?_
  rw [nI_clamp (by omega), hx0]
  exact fun H1 locs1 h1 h2 h3 => kk _ H1 locs1 rfl h1 h2 h3
theorem x_bastN (hx : p.tables.exec = Jvm.exec) (hb : c.code = cc) (hK : x_K g s) (hP : va_P g.1 vwCl w0 H) (hD : va_D A w0) {H0 : Heap} (hS : va_S A H0 H locs) (q0 k : Nat) {a n : Nat} {f : Nat → Int32} (ha : w0[q0]? = some (a, .inl (g.2.1 2, n, .inl f))) {x : Int32} (hk : k < n) (hn : n < 2 ^ 31) (hdg : decode cc pc = .ok (.bastore, 1)) (hx0 : vp_nar .byte x = x)
    (kk : ∀ (f1 : Nat → Int32) (H1 : Heap) (locs1 : List Loc), f1 = upd f k x → va_P g.1 vwCl (w0.set q0 (a, .inl (g.2.1 2, n, .inl f1))) H1 → va_D A (w0.set q0 (a, .inl (g.2.1 2, n, .inl f1))) → va_S A H0 H1 locs1 → W p l e R s m args below meth c H1 locs1 cells slots Q (F0 m (pc + 1) ls rest)) : W p l e R s m args below meth c H locs cells slots Q (F0 m pc ls (.int x :: .int (nI k) :: .ref a :: rest)) := by
  refine va_bast hx hb hK.1 hP hD hS q0 2 ha rfl (vp_in_nI hk hn) hdg ?_
  rw [nI_clamp (by omega), hx0]
  exact fun H1 locs1 h1 h2 h3 => kk _ H1 locs1 rfl h1 h2 h3
theorem x_aald (hx : p.tables.exec = Jvm.exec) (hb : c.code = cc) (hK : x_K g s) (hP : va_P g.1 vwCl w0 H) (q0 k : Nat) {a n z : Nat} {f : Nat → Option Nat} (ha : w0[q0]? = some (a, .inl (g.2.1 3, n, .inr (.inr (.inr (.inr f)))))) (hk : k < n) (hn : n < 2 ^ 31) (hz : f k = some z) (hdg : decode cc pc = .ok (.aaload, 1)) (kk : W p l e R s m args below meth c H locs cells slots Q (F0 m (pc + 1) ls (.ref z :: rest))) : W p l e R s m args below meth c H locs cells slots Q (F0 m pc ls (.int (nI k) :: .ref a :: rest)) := by
  refine va_aldq hx hb hK.1 hP q0 3 ha rfl (vp_in_nI hk hn) hdg ?_
  rw [nI_clamp (by omega), hz]
  exact kk
theorem x_max (hx : p.tables.exec = Jvm.exec) (hb : c.code = cc) (hml : c.maxLocals = nL) (hls : ls.size = nL) {own : String} {index : Nat} (hown : s.vm.findClass own = some m.cls) (hlink : (Cond.methodLink own index Lib.Math.max.name).before args s = true) (hstat : (Cond.static Lib.Math.max.name).before args s = true) (hini : (Cond.initialized "java/lang/Math").before args s = true) (hcode : (Cond.code Lib.Math.max.name Lib.Math.max.code 2 (some .int)).before args s = true)
    (hframes : 1 ≤ R.frames) (hlocals : (rest.map fun v => v.category).sum + 13 ≤ R.locals) (hf : cells ≤ R.cells ∧ slots ≤ R.slots) {x y : Int32} (hdg : decode cc pc = .ok (.invokestatic index, 3))
    (kk : W p l e R s m args below meth c H locs cells slots Q (F0 m (pc + 3) ls (.int (if x < y then y else x) :: rest))) : W p l e R s m args below meth c H locs cells slots Q (F0 m pc ls (.int y :: .int x :: rest)) :=
  va_mmax hx hb (hml.trans hls.symm) hown hlink hstat hini hcode hframes hlocals hf.1 hf.2 hdg kk
theorem x_callS0 {S : Type} {post : Int32 → S → Prop} {w' : S → va_W} (X : CallFix p m c cc nL s args Ts own) (hK : x_K g s) (hX : x_Ext g A s s.heap) (hP : va_P g.1 vwCl w0 H) (hD : va_D A w0) (hS : va_S A s.heap H locs) (hA : ∀ q, s.heap.size ≤ q → A q)
    (hM : x_MetI l y ws rm g As [] post w') (cw : CallB R s args own index y bytes maxL ret ws rm 0 0 n ∧ (Cond.static y).before args s = true)
    (hn : As.length = n) (hls : ls.size = nL) (hst : st0 = As.reverse ++ rest) (h8 : (rest.map fun v => v.category).sum ≤ 8) (hdg : decode cc pc = .ok (.invokestatic index, 3)) (hf : cells ≤ R.cells ∧ slots ≤ R.slots)
    (kk : ∀ (r : Int32) (u : S) (H1 : Heap) (locs1 : List Loc), post r u → va_P g.1 vwCl w0 H1 → va_D A w0 → va_S A s.heap H1 locs1 → W p l e R s m args below meth c H1 locs1 cells slots Q (F0 m (pc + 3) ls (.int r :: rest))) : W p l e R s m args below meth c H locs cells slots Q (F0 m pc ls st0) := by
  have hF := va_free (wc := []) hD hS hA [] rfl
  refine va_calli (va_runS (As := As) (rest := rest) X (hM H.size) cw ⟨x_blind g _ _ _, x_pre [] hK hX hS hF hP hD rfl rfl _⟩ rfl hn hls hst (lv_room h8) hdg hf) hS (fun q _ h => hF q h) hF (fun r u t H1 locs1 ht hvm hw hB hz1 hk1 hS1 => ?_)
  refine kk r u H1 locs1 hw (hP.kept fun k q hq => hk1 q.1 (hP k q hq).lt ?_) hD hS1
  rintro (⟨k2, e2, h2⟩ | h2)
  · simp at h2
  · exact absurd (hP k q hq).lt (Nat.not_lt.mpr h2)
theorem x_callN0 {S : Type} {post : Int32 → S → Prop} {w' : S → va_W} (X : CallFix p m c cc nL s args Ts own) (hK : x_K g s) (hX : x_Ext g A s s.heap) (hP : va_P g.1 vwCl w0 H) (hD : va_D A w0) (hS : va_S A s.heap H locs) (hA : ∀ q, s.heap.size ≤ q → A q)
    (hM : x_MetI l y ws rm g As [] post w') (cw : va_CN R s args own index y host bytes maxL ret ws rm 0 0 n ∧ (Cond.static y).before args s = true ∧ True)
    (hn : As.length = n) (hls : ls.size = nL) (hst : st0 = As.reverse ++ rest) (h8 : (rest.map fun v => v.category).sum ≤ 8) (hdg : decode cc pc = .ok (.invokestatic index, 3)) (hf : cells ≤ R.cells ∧ slots ≤ R.slots)
    (kk : ∀ (r : Int32) (u : S) (H1 : Heap) (locs1 : List Loc), post r u → va_P g.1 vwCl w0 H1 → va_D A w0 → va_S A s.heap H1 locs1 → W p l e R s m args below meth c H1 locs1 cells slots Q (F0 m (pc + 3) ls (.int r :: rest))) : W p l e R s m args below meth c H locs cells slots Q (F0 m pc ls st0) := by
  have hF := va_free (wc := []) hD hS hA [] rfl
  refine va_calli (va_runSN (As := As) (rest := rest) X (hM H.size) cw ⟨x_blind g _ _ _, x_pre [] hK hX hS hF hP hD rfl rfl _⟩ rfl hn hls hst (lv_room h8) hdg hf) hS (fun q _ h => hF q h) hF (fun r u t H1 locs1 ht hvm hw hB hz1 hk1 hS1 => ?_)
  refine kk r u H1 locs1 hw (hP.kept fun k q hq => hk1 q.1 (hP k q hq).lt ?_) hD hS1
  rintro (⟨k2, e2, h2⟩ | h2)
  · simp at h2
  · exact absurd (hP k q hq).lt (Nat.not_lt.mpr h2)
theorem x_kept0 {H1 : Heap} (hP : va_P g.1 vwCl w0 H) (hk1 : ∀ q : Nat, q < H.size → ¬ va_A [] H.size q → H1[q]? = H[q]?) : va_P g.1 vwCl w0 H1 := by
  refine hP.kept fun k q hq => hk1 q.1 (hP k q hq).lt ?_
  rintro (⟨k2, e2, h2⟩ | h2)
  · simp at h2
  · exact absurd (hP k q hq).lt (Nat.not_lt.mpr h2)
theorem x_callS0v {S : Type} {post : S → Prop} {w' : S → va_W} (X : CallFix p m c cc nL s args Ts own) (hK : x_K g s) (hX : x_Ext g A s s.heap) (hP : va_P g.1 vwCl w0 H) (hD : va_D A w0) (hS : va_S A s.heap H locs) (hA : ∀ q, s.heap.size ≤ q → A q)
    (hM : x_MetV l y ws rm g As [] post w') (cw : CallB R s args own index y bytes maxL ret ws rm 0 0 n ∧ (Cond.static y).before args s = true)
    (hn : As.length = n) (hls : ls.size = nL) (hst : st0 = As.reverse ++ rest) (h8 : (rest.map fun v => v.category).sum ≤ 8) (hdg : decode cc pc = .ok (.invokestatic index, 3)) (hf : cells ≤ R.cells ∧ slots ≤ R.slots)
    (kk : ∀ (u : S) (H1 : Heap) (locs1 : List Loc), post u → va_P g.1 vwCl w0 H1 → va_D A w0 → va_S A s.heap H1 locs1 → W p l e R s m args below meth c H1 locs1 cells slots Q (F0 m (pc + 3) ls rest)) : W p l e R s m args below meth c H locs cells slots Q (F0 m pc ls st0) := by
  have hF := va_free (wc := []) hD hS hA [] rfl
  refine va_callv (va_runS (As := As) (rest := rest) X (hM H.size) cw ⟨x_blind g _ _ _, x_pre [] hK hX hS hF hP hD rfl rfl _⟩ rfl hn hls hst (lv_room h8) hdg hf) hS (fun q _ h => hF q h) hF (fun u t H1 locs1 ht hvm hw hB hz1 hk1 hS1 => ?_)
  exact kk u H1 locs1 hw (x_kept0 hP hk1) hD hS1
theorem x_callS0r {ad : Nat} (X : CallFix p m c cc nL s args Ts own) (hK : x_K g s) (hX : x_Ext g A s s.heap) (hP : va_P g.1 vwCl w0 H) (hD : va_D A w0) (hS : va_S A s.heap H locs) (hA : ∀ q, s.heap.size ≤ q → A q)
    (hM : x_MetR l y ws rm g As ad) (cw : CallB R s args own index y bytes maxL ret ws rm 0 0 n ∧ (Cond.static y).before args s = true)
    (hn : As.length = n) (hls : ls.size = nL) (hst : st0 = As.reverse ++ rest) (h8 : (rest.map fun v => v.category).sum ≤ 8) (hdg : decode cc pc = .ok (.invokestatic index, 3)) (hf : cells ≤ R.cells ∧ slots ≤ R.slots)
    (kk : ∀ (H1 : Heap) (locs1 : List Loc), va_P g.1 vwCl w0 H1 → va_D A w0 → va_S A s.heap H1 locs1 → W p l e R s m args below meth c H1 locs1 cells slots Q (F0 m (pc + 3) ls (.ref ad :: rest))) : W p l e R s m args below meth c H locs cells slots Q (F0 m pc ls st0) := by
  have hF := va_free (wc := []) hD hS hA [] rfl
  refine va_callr (va_runS (As := As) (rest := rest) X (hM H.size) cw ⟨x_blind g _ _ _, x_pre [] hK hX hS hF hP hD rfl rfl _⟩ rfl hn hls hst (lv_room h8) hdg hf) hS (fun q _ h => hF q h) hF (fun u ra t H1 locs1 ht hvm hw hB hz1 hk1 hS1 => ?_)
  obtain ⟨rfl, -⟩ := hB
  exact kk H1 locs1 (x_kept0 hP hk1) hD hS1
theorem x_callV0i {S : Type} {post : Int32 → S → Prop} {w' : S → va_W} (X : CallFix p m c cc nL s args Ts own) (hK : x_K g s) (hX : x_Ext g A s s.heap) (hP : va_P g.1 vwCl w0 H) (hD : va_D A w0) (hS : va_S A s.heap H locs) (hA : ∀ q, s.heap.size ≤ q → A q)
    (hM : x_MetI l y ws rm g (.ref b :: As) [] post w') (cw : CallW R s args own C index y bytes maxL ret ws rm 0 0 n) (hrec : ∃ cell : Cell, H[b]? = some cell ∧ cell.vm.isStatics = false ∧ s.vm.findClass C = some cell.cls)
    (hn : As.length = n) (hls : ls.size = nL) (hst : st0 = As.reverse ++ .ref b :: rest) (h8 : (rest.map fun v => v.category).sum ≤ 8) (hdg : decode cc pc = .ok (.invokevirtual index, 3)) (hf : cells ≤ R.cells ∧ slots ≤ R.slots)
    (kk : ∀ (r : Int32) (u : S) (H1 : Heap) (locs1 : List Loc), post r u → va_P g.1 vwCl w0 H1 → va_D A w0 → va_S A s.heap H1 locs1 → W p l e R s m args below meth c H1 locs1 cells slots Q (F0 m (pc + 3) ls (.int r :: rest))) : W p l e R s m args below meth c H locs cells slots Q (F0 m pc ls st0) := by
  have hF := va_free (wc := []) hD hS hA [] rfl
  refine va_calli (va_runV (As := As) (rest := rest) X (hM H.size) cw ⟨x_blind g _ _ _, hrec, x_pre [] hK hX hS hF hP hD rfl rfl _⟩ rfl hn hls hst (lv_room h8) hdg hf) hS (fun q _ h => hF q h) hF (fun r u t H1 locs1 ht hvm hw hB hz1 hk1 hS1 => ?_)
  exact kk r u H1 locs1 hw (x_kept0 hP hk1) hD hS1
theorem x_icmp_neI {x z : Int32} (hx : p.tables.exec = Jvm.exec) (hb : c.code = cc) {off : Int} {tgt : Nat} (hdg : decode cc pc = .ok (.if_icmp .ne off, 3)) (ht : (pc : Int) + off = (tgt : Int)) (kt : ¬ x = z → W p l e R s m args below meth c H locs cells slots Q (F0 m tgt ls rest)) (kf : x = z → W p l e R s m args below meth c H locs cells slots Q (F0 m (pc + 3) ls rest)) : W p l e R s m args below meth c H locs cells slots Q (F0 m pc ls (.int z :: .int x :: rest)) :=
  lv_icmp_ne hx hb hdg ht kt kf
theorem x_if_neI {x : Int32} (hx : p.tables.exec = Jvm.exec) (hb : c.code = cc) {off : Int} {tgt : Nat} (hdg : decode cc pc = .ok (.ifCond .ne off, 3)) (ht : (pc : Int) + off = (tgt : Int)) (kt : ¬ x = 0 → W p l e R s m args below meth c H locs cells slots Q (F0 m tgt ls rest)) (kf : x = 0 → W p l e R s m args below meth c H locs cells slots Q (F0 m (pc + 3) ls rest)) : W p l e R s m args below meth c H locs cells slots Q (F0 m pc ls (.int x :: rest)) :=
  lv_if_ne hx hb hdg ht kt kf
theorem x_if_eq {a : Nat} (hx : p.tables.exec = Jvm.exec) (hb : c.code = cc) (ha : a < 2 ^ 31) {off : Int} {tgt : Nat} (hdg : decode cc pc = .ok (.ifCond .eq off, 3)) (ht : (pc : Int) + off = (tgt : Int)) (kt : a = 0 → W p l e R s m args below meth c H locs cells slots Q (F0 m tgt ls rest)) (kf : ¬ a = 0 → W p l e R s m args below meth c H locs cells slots Q (F0 m (pc + 3) ls rest)) : W p l e R s m args below meth c H locs cells slots Q (F0 m pc ls (.int (nI a) :: rest)) :=
  lv_if_eq hx hb hdg ht (fun q => kt ((nI_eq (b := 0) ha (by decide)).mp q)) (fun q => kf (fun z => q ((nI_eq (b := 0) ha (by decide)).mpr z)))
theorem x_if_ne {a : Nat} (hx : p.tables.exec = Jvm.exec) (hb : c.code = cc) (ha : a < 2 ^ 31) {off : Int} {tgt : Nat} (hdg : decode cc pc = .ok (.ifCond .ne off, 3)) (ht : (pc : Int) + off = (tgt : Int)) (kt : ¬ a = 0 → W p l e R s m args below meth c H locs cells slots Q (F0 m tgt ls rest)) (kf : a = 0 → W p l e R s m args below meth c H locs cells slots Q (F0 m (pc + 3) ls rest)) : W p l e R s m args below meth c H locs cells slots Q (F0 m pc ls (.int (nI a) :: rest)) :=
  lv_if_ne hx hb hdg ht (fun q => kt (fun z => q ((nI_eq (b := 0) ha (by decide)).mpr z))) (fun q => kf ((nI_eq (b := 0) ha (by decide)).mp q))
theorem x_if_le {a : Nat} (hx : p.tables.exec = Jvm.exec) (hb : c.code = cc) (ha : a < 2 ^ 31) {off : Int} {tgt : Nat} (hdg : decode cc pc = .ok (.ifCond .le off, 3)) (ht : (pc : Int) + off = (tgt : Int)) (kt : a ≤ 0 → W p l e R s m args below meth c H locs cells slots Q (F0 m tgt ls rest)) (kf : ¬ a ≤ 0 → W p l e R s m args below meth c H locs cells slots Q (F0 m (pc + 3) ls rest)) : W p l e R s m args below meth c H locs cells slots Q (F0 m pc ls (.int (nI a) :: rest)) :=
  lv_if_le hx hb hdg ht (fun q => kt ((nI_leI (b := 0) ha (by omega)).mp q)) (fun q => kf (fun z => q ((nI_leI (b := 0) ha (by omega)).mpr z)))
theorem x_if_gt {a : Nat} (hx : p.tables.exec = Jvm.exec) (hb : c.code = cc) (ha : a < 2 ^ 31) {off : Int} {tgt : Nat} (hdg : decode cc pc = .ok (.ifCond .gt off, 3)) (ht : (pc : Int) + off = (tgt : Int)) (kt : 0 < a → W p l e R s m args below meth c H locs cells slots Q (F0 m tgt ls rest)) (kf : ¬ 0 < a → W p l e R s m args below meth c H locs cells slots Q (F0 m (pc + 3) ls rest)) : W p l e R s m args below meth c H locs cells slots Q (F0 m pc ls (.int (nI a) :: rest)) :=
  lv_if_gt hx hb hdg ht (fun q => kt ((nI_ltI (a := 0) (by omega) ha).mp q)) (fun q => kf (fun z => q ((nI_ltI (a := 0) (by omega) ha).mpr z)))
theorem x_tbN {t N : Nat} {f : Nat → Int32} (k : Nat) (hx : p.tables.exec = Jvm.exec) (hb : c.code = cc) (hT : va_T .byte t N (fun j => .int (f j)) A s s.heap) (hS : va_S A s.heap H locs) (hk : k < N) (hN : N < 2 ^ 31) (hdg : decode cc pc = .ok (.baload, 1)) (kk : W p l e R s m args below meth c H locs cells slots Q (F0 m (pc + 1) ls (.int (f k) :: rest))) : W p l e R s m args below meth c H locs cells slots Q (F0 m pc ls (.int (nI k) :: .ref t :: rest)) :=
  va_tb hx hb hT hS (vp_in_nI hk hN) (v := .int (f k)) (by rw [nI_clamp (by omega)]) hdg kk
theorem x_if_ltP {a : Nat} (hx : p.tables.exec = Jvm.exec) (hb : c.code = cc) (ha : a < 2 ^ 31) {off : Int} {tgt : Nat} (hdg : decode cc pc = .ok (.ifCond .lt off, 3)) (ht : (pc : Int) + off = (tgt : Int)) (kt : a = 0 → W p l e R s m args below meth c H locs cells slots Q (F0 m tgt ls rest)) (kf : ¬ a = 0 → W p l e R s m args below meth c H locs cells slots Q (F0 m (pc + 3) ls rest)) : W p l e R s m args below meth c H locs cells slots Q (F0 m pc ls (.int (nI a + (-1)) :: rest)) := by
  refine lv_if_lt hx hb hdg ht (fun q => kt ?_) (fun q => kf ?_)
  · rcases Nat.eq_zero_or_pos a with h | h
    · exact h
    · obtain ⟨k, rfl⟩ : ∃ k, a = k + 1 := ⟨a - 1, by omega⟩
      rw [pk_m1] at q
      exact absurd q (nI_pos (by omega))
  · rintro rfl
    exact q (by decide)
theorem x_tiN {t N : Nat} {f : Nat → Int32} (k : Nat) (hx : p.tables.exec = Jvm.exec) (hb : c.code = cc) (hT : va_T .int t N (fun j => .int (f j)) A s s.heap) (hS : va_S A s.heap H locs) (hk : k < N) (hN : N < 2 ^ 31) (hdg : decode cc pc = .ok (.iaload, 1)) (kk : W p l e R s m args below meth c H locs cells slots Q (F0 m (pc + 1) ls (.int (f k) :: rest))) : W p l e R s m args below meth c H locs cells slots Q (F0 m pc ls (.int (nI k) :: .ref t :: rest)) :=
  va_ti hx hb hT hS (vp_in_nI hk hN) (v := .int (f k)) (by rw [nI_clamp (by omega)]) hdg kk
end XC
theorem x_pm1 {a : Nat} (h : ¬ a = 0) : nI a + (-1) = nI (a - 1) := by
  obtain ⟨k, rfl⟩ : ∃ k, a = k + 1 := ⟨a - 1, by omega⟩
  exact pk_m1 k
theorem x_out {x : Int32} {hi : Int} (n : Nat) (hn : n < 2 ^ 31) (h : ∀ k : Nat, k < n → ¬ x = nI k) (e : hi + 1 = (n : Int)) : x.toInt < 0 ∨ hi < x.toInt := by
  by_cases h0 : x.toInt < 0
  · exact Or.inl h0
  · refine Or.inr ?_
    by_cases h1 : hi < x.toInt
    · exact h1
    · exfalso
      refine h x.toInt.toNat (by omega) (Int32.toInt_inj.mp ?_)
      rw [nI_toInt (by omega)]
      omega
theorem x_max1 (y : Int32) : ¬ (if (1 : Int32) < y then y else 1) = 0 := by
  intro h
  split at h
  · next c => subst h; exact absurd c (by decide)
  · exact absurd h (by decide)
theorem x_nar {v : Int32} (h : v = 0 ∨ v = 1) : narrow .boolean (.int v) = .int v := by
  rcases h with rfl | rfl <;> rfl
theorem x_nar0 {v : Int32} (h : v = 0 ∨ v = 1) : vp_nar .boolean v = v := by
  rcases h with rfl | rfl <;> rfl
theorem x_e8 {f g : Nat → Int32} (h : f 0 = g 0) (h2 : ¬ 8 * g 0 = 0) : ¬ 8 * f 0 = 0 := by rw [h]; exact h2
def x_cellsN (j : Nat) : Nat := ([0, 1, 2, 3, 0, 1, 3, 2, 0, 2, 1, 3, 0, 2, 3, 1, 0, 3, 1, 2, 0, 3, 2, 1, 1, 0, 2, 3, 1, 0, 3, 2, 1, 2, 0, 3, 1, 2, 3, 0, 1, 3, 0, 2, 1, 3, 2, 0, 2, 0, 1, 3, 2, 0, 3, 1, 2, 1, 0, 3, 2, 1, 3, 0, 2, 3, 0, 1, 2, 3, 1, 0, 3, 0, 1, 2, 3, 0, 2, 1, 3, 1, 0, 2, 3, 1, 2, 0, 3, 2, 0, 1, 3, 2, 1, 0] : List Nat).getD j 0
theorem x_cells_nat (j : Nat) (h : j < 96) : x_cells j = nI (x_cellsN j) ∧ x_cellsN j < 4 := co_dec (N := 96) (P := fun j => x_cells j = nI (x_cellsN j) ∧ x_cellsN j < 4) (by decide +kernel) h
def x_fromN (j : Nat) : Nat := ([0, 7, 9, 11, 12, 13, 15] : List Nat).getD j 0
theorem x_from_nat (j : Nat) (h : j < 7) : x_from j = nI (x_fromN j) ∧ x_fromN j ≤ 15 := co_dec (N := 7) (P := fun j => x_from j = nI (x_fromN j) ∧ x_fromN j ≤ 15) (by decide +kernel) h
theorem x_from_mono (j : Nat) (h : j < 6) : x_fromN j ≤ x_fromN (j + 1) ∧ x_fromN (j + 1) ≤ 15 := co_dec (N := 6) (P := fun j => x_fromN j ≤ x_fromN (j + 1) ∧ x_fromN (j + 1) ≤ 15) (by decide +kernel) h
theorem x_tok {t k : Int32} {n : Nat} (h : t = 0 ∨ n ≤ 300) (c : t = k) (hk : ¬ k = 0) : n ≤ 300 := by
  rcases h with h | h
  · exact absurd (c.symm.trans h) hk
  · exact h
theorem x_sec_of {f g : Nat → Int32} (h : ∀ q : Nat, q < 12 → f q = g q) (h1 : ∀ k : Nat, k < 12 → (g k).toNatClampNeg ≤ 99 ∧ g k = nI (g k).toNatClampNeg) : ∀ k : Nat, k < 12 → (f k).toNatClampNeg ≤ 99 ∧ f k = nI (f k).toNatClampNeg := fun k hk => by rw [h k hk]; exact h1 k hk
theorem x_updall {f g : Nat → Int32} {k : Nat} (h : ∀ q : Nat, q < k → f q = g q) : ∀ q : Nat, q < k + 1 → upd f k (g k) q = g q := by
  intro q hq
  by_cases e : q = k
  · subst e; exact pk_us
  · rw [pk_un e]; exact h q (by omega)
theorem x_lens_le {w : Nat} (h : w < 6) : x_lens.getD w 0 ≤ 6 := co_dec (N := 6) (P := fun w => x_lens.getD w 0 ≤ 6) (by decide +kernel) h
theorem x_lens_lt {w : Nat} (h : w < 6) : x_lens.getD w 0 < 2 ^ 31 := Nat.lt_of_le_of_lt (x_lens_le h) (by decide)
