/-- the tables' words that live on in a callee -/
def xWS : List Cond := lw_tbl.filter goodWord
theorem xWS_mem {w : Cond} (k : Nat) (h : lw_tbl[k]? = some w) (hg : goodWord w = true) : w ∈ xWS := List.mem_filter.mpr ⟨List.mem_of_getElem? h, hg⟩
theorem xWS_sub {w : Cond} (h : w ∈ xWS) : w ∈ lw_tbl := (List.mem_filter.mp h).1
theorem xWS_good {w : Cond} (h : w ∈ xWS) : (w.onTables && w.keeps) = true ∨ ∃ ty, w = .arrayClass ty := good_of_word (List.mem_filter.mp h).2
theorem xGood {ws : List Cond} (h : ∀ w ∈ ws, w ∈ xWS) : GoodIn xWS ws := fun w hw => ⟨h w hw, xWS_good (h w hw)⟩
def xR (h : Nat) : Room := { frames := h, cells := 0, slots := 0, locals := 48 * h }
def xNest : List Cond := [.methodLinkNest "DayMarket" 9 ⟨"DayMarket$Laws", "<init>", "()V"⟩ "DayMarket", .methodLinkNest "DayMarket" 18 ⟨"DayMarket$Reader", "<init>", "()V"⟩ "DayMarket", .methodLinkNest "DayMarket" 40 ⟨"DayMarket$Life", "<init>", "()V"⟩ "DayMarket", .methodLinkNest "DayMarket" 55 ⟨"DayMarket$Row", "<init>", "()V"⟩ "DayMarket", .methodLinkNest "DayMarket" 62 ⟨"DayMarket$Slot", "<init>", "()V"⟩ "DayMarket", .methodLinkNest "DayMarket$Slot" 11 ⟨"DayMarket$Row", "<init>", "()V"⟩ "DayMarket", .methodLinkNest "DayMarket$World" 89 ⟨"DayMarket", "held", "(III)I"⟩ "DayMarket", .methodLinkNest "DayMarket$Life" 52 ⟨"DayMarket", "sumOver", "([II)I"⟩ "DayMarket", .methodLinkNest "DayMarket$Row" 28 ⟨"DayMarket", "within", "(III)Z"⟩ "DayMarket"]
/-- what is read off the old heap: ABOVE's address, the Strings and their bytes -/
abbrev xSg : Type := Nat × (Nat → Nat) × (Nat → Nat)
def xAb : Nat → Value := fun j => .int ((([-1, 0, 0, 1, 2, 0] : List Int32)).getD j 0)
def xLen : List Nat := [5, 4, 4, 3, 3, 2]
def xByt : List (List Int32) := [[112, 114, 105, 99, 101], [119, 101, 97, 114], [102, 105, 110, 101], [116, 119, 100], [120, 116, 119], [99, 110]]
def xTx : List (Nat × String) := [(104, "price"), (106, "wear"), (108, "fine"), (110, "twd"), (112, "xtw"), (114, "cn")]
def xSt (g : xSg) (A : Nat → Prop) (U : State) (H : Heap) : Prop :=
  (∀ w ∈ xNest, va_Nw w U) ∧ va_Z "DayMarket" "ABOVE" "[I" (.ref g.1) A U H ∧ va_T .int g.1 6 xAb A U H ∧ va_Z "java/lang/String" "COMPACT_STRINGS" "Z" (.int 1) A U H ∧ va_Zq "jdk/internal/util/Preconditions" "SIOOBE_FORMATTER" "Ljava/util/function/BiFunction;" A U H ∧ vk_S 6 xLen xByt g.2.1 g.2.2 A U H ∧ ∀ (i k : Nat) (tx : String), xTx[i]? = some (k, tx) → vk_R "DayMarket$Reader" k tx (g.2.1 i) U
theorem xNest_on : xNest.all (fun w => w.onTables) = true := by decide +kernel
theorem xNest_same {w : Cond} (hw : w ∈ xNest) {u U : State} (hv : u.vm = U.vm) (h : va_Nw w u) : va_Nw w U := va_Nw.same (List.all_eq_true.mp xNest_on w hw) hv h
theorem xNest_warm {s U : State} (hW : s.WarmedH U.vm) {w : Cond} (hw : w ∈ xNest) (h : va_Nw w s) : va_Nw w U := by
  have : ∃ (a : String) (i : Nat) (x : MethodName) (b : String), w = .methodLinkNest a i x b := by
    simp only [xNest, List.mem_cons, List.not_mem_nil, or_false] at hw
    rcases hw with rfl | rfl | rfl | rfl | rfl | rfl | rfl | rfl | rfl <;> exact ⟨_, _, _, _, rfl⟩
  obtain ⟨a, i, x, b, rfl⟩ := this
  exact va_Nw.warmM hW h
theorem xSt.same {g : xSg} {A : Nat → Prop} {u U : State} {H : Heap} (hv : u.vm = U.vm) (h : xSt g A u H) : xSt g A U H := by
  obtain ⟨h1, h2, h3, h4, h5, h6, h7⟩ := h
  have ha : u.vm.Alike U.vm := hv ▸ Vm.Alike.refl u.vm
  exact ⟨fun w hw => xNest_same hw hv (h1 w hw), h2.moved ha, h3.moved ha, h4.moved ha, h5.moved ha, h6.moved ha, fun i k tx hi => vk_R.same hv.symm (h7 i k tx hi)⟩
theorem xSt.go {g : xSg} {A B : Nat → Prop} {s U : State} {H H1 : Heap} (hW : s.WarmedH U.vm) (hq : ∀ a : Nat, a < H.size → ¬ A a → H1[a]? = H[a]?) (hAB : ∀ q, B q → A q) (h : xSt g A s H) : xSt g B U H1 := by
  obtain ⟨h1, h2, h3, h4, h5, h6, h7⟩ := h
  have ha := hW.alike
  exact ⟨fun w hw => xNest_warm hW hw (h1 w hw), ((h2.kept hq).narrow hAB).moved ha, ((h3.kept hq).narrow hAB).moved ha, ((h4.kept hq).narrow hAB).moved ha, ((h5.kept hq).narrow hAB).moved ha, ((h6.kept hq).narrow hAB).moved ha, fun i k tx hi => vk_R.warm hW (h7 i k tx hi)⟩
/-- the tables' numbers: classes and slots, array classes (0 int, 1 int[], 2 Row, 3 Slot), the old heap's addresses, the addresses of the places -/
abbrev xG : Type := va_G × (Nat → ClassId) × xSg × (Nat → Nat)
def xTy (γ : xG) : List (ClassId × FieldType) := [(γ.2.1 0, .int), (γ.2.1 1, .array .int), (γ.2.1 2, .object "DayMarket$Row"), (γ.2.1 3, .object "DayMarket$Slot")]
/-- what the cells hold: a row of ints a place -/
abbrev xH : Type := Nat → Nat → Int32
def xpt (h : xH) (k : Nat) (c : Nat → Int32) : xH := fun a => if a = k then c else h a
def xst (h : xH) (k j : Nat) (v : Int32) : xH := xpt h k (upd (h k) j v)
abbrev xSh : Type := xG → (Nat → Int32) → va_E
abbrev xS : Type := List xSh
def shA (n : Nat) : xSh := fun γ c => .inl (γ.2.1 0, n, .inl c)
def shQ (t n : Nat) (g : Nat → Nat) : xSh := fun γ _ => .inl (γ.2.1 t, n, .inr (.inr (.inr (.inr (fun i => some (γ.2.2.2 (g i)))))))
def xws (γ : xG) (S : xS) (h : xH) : va_W := S.mapIdx (fun k f => (γ.2.2.2 k, f γ (h k)))
theorem xws_get {γ : xG} {S : xS} {h : xH} {k : Nat} {f : xSh} (hk : S[k]? = some f) : (xws γ S h)[k]? = some (γ.2.2.2 k, f γ (h k)) := by
  rw [xws, List.getElem?_mapIdx, hk]; rfl
theorem xws_inv {γ : xG} {S : xS} {h : xH} {k : Nat} {q : Nat × va_E} (hk : (xws γ S h)[k]? = some q) : ∃ f, S[k]? = some f ∧ q = (γ.2.2.2 k, f γ (h k)) := by
  rw [xws, List.getElem?_mapIdx] at hk
  cases hs : S[k]? with
  | none => rw [hs] at hk; cases hk
  | some f => rw [hs] at hk; exact ⟨f, rfl, (Option.some.inj hk).symm⟩
theorem xws_set {γ : xG} {S : xS} {h : xH} {k : Nat} {f : xSh} {c : Nat → Int32} (hk : S[k]? = some f) : (xws γ S h).set k (γ.2.2.2 k, f γ c) = xws γ S (xpt h k c) := by
  apply List.ext_getElem?
  intro i
  by_cases hi : i = k
  · subst hi
    have hl : i < (xws γ S h).length := (List.getElem?_eq_some_iff.mp (xws_get (γ := γ) (h := h) hk)).1
    rw [List.getElem?_set_self hl, xws_get hk]
    simp [xpt]
  · rw [List.getElem?_set_ne (Ne.symm hi)]
    simp only [xws, List.getElem?_mapIdx, xpt, if_neg hi]
theorem xA_eq {γ : xG} {S : xS} {h h' : xH} {sz q : Nat} (hq : va_A (xws γ S h) sz q) : va_A (xws γ S h') sz q := by
  rcases hq with ⟨k, e, hk⟩ | hq
  · obtain ⟨f, h1, h2⟩ := xws_inv hk
    cases h2
    exact Or.inl ⟨k, _, xws_get h1⟩
  · exact Or.inr hq
/-- the functions that the methods are: guards and binds -/
def gd {ρ : Type} (i : Int32) (n : Nat) (k : Option ρ) : Option ρ := if i < 0 ∨ n ≤ i.toNatClampNeg then none else k
def gz {ρ : Type} (y : Int32) (k : Option ρ) : Option ρ := if y = 0 then none else k
def gb {ρ : Type} (y : Int32) (k : Option ρ) : Option ρ := if y = 0 ∨ y = 1 then k else none
def gc {ρ : Type} (sp dp n : Int32) (n0 n1 : Nat) (k : Option ρ) : Option ρ := if sp < 0 ∨ dp < 0 ∨ n < 0 ∨ n0 < sp.toNatClampNeg + n.toNatClampNeg ∨ n1 < dp.toNatClampNeg + n.toNatClampNeg then none else k
def bn {ρ : Type} (x : Option (Int32 × xH)) (k : Int32 → xH → Option ρ) : Option ρ := match x with
  | none => none
  | some q => k q.1 q.2
theorem gd_of {ρ : Type} {i : Int32} {n : Nat} {k : Option ρ} {r : ρ} (e : gd i n k = some r) : vp_in i n ∧ k = some r := by
  unfold gd at e
  split at e
  · cases e
  · rename_i c; exact ⟨c, e⟩
theorem gz_of {ρ : Type} {y : Int32} {k : Option ρ} {r : ρ} (e : gz y k = some r) : ¬ y = 0 ∧ k = some r := by
  unfold gz at e
  split at e
  · cases e
  · rename_i c; exact ⟨c, e⟩
theorem gb_of {ρ : Type} {y : Int32} {k : Option ρ} {r : ρ} (e : gb y k = some r) : (y = 0 ∨ y = 1) ∧ k = some r := by
  unfold gb at e
  split at e
  · rename_i c; exact ⟨c, e⟩
  · cases e
theorem gc_of {ρ : Type} {sp dp n : Int32} {n0 n1 : Nat} {k : Option ρ} {r : ρ} (e : gc sp dp n n0 n1 k = some r) : (¬ sp < 0 ∧ ¬ dp < 0 ∧ ¬ n < 0 ∧ sp.toNatClampNeg + n.toNatClampNeg ≤ n0 ∧ dp.toNatClampNeg + n.toNatClampNeg ≤ n1) ∧ k = some r := by
  unfold gc at e
  split at e
  · cases e
  · rename_i c
    simp only [not_or] at c
    exact ⟨⟨c.1, c.2.1, c.2.2.1, Nat.not_lt.mp c.2.2.2.1, Nat.not_lt.mp c.2.2.2.2⟩, e⟩
theorem bn_of {ρ : Type} {x : Option (Int32 × xH)} {k : Int32 → xH → Option ρ} {r : ρ} (e : bn x k = some r) : ∃ (a : Int32) (h : xH), x = some (a, h) ∧ k a h = some r := by
  unfold bn at e
  split at e
  · cases e
  · rename_i q; exact ⟨q.1, q.2, rfl, e⟩
def nm {α β : Type} (x : α) (f : α → β) : β := f x
theorem nm_of {α β : Type} {x : α} {f : α → β} {r : β} (e : nm x f = r) : f x = r := e
def xN : Nat := 4096
theorem if_of {ρ : Type} {c : Prop} [Decidable c] {a b : Option ρ} {r : ρ} (e : (if c then a else b) = some r) : (c ∧ a = some r) ∨ (¬ c ∧ b = some r) := by
  split at e
  · rename_i h; exact Or.inl ⟨h, e⟩
  · rename_i h; exact Or.inr ⟨h, e⟩
/-- locals by their places -/
def xlg : Nat → List (Option Value) → List (Nat × Value)
  | _, [] => []
  | i, none :: t => xlg (i + 1) t
  | i, some v :: t => (i, v) :: xlg (i + 1) t
theorem xlg_mem : ∀ (L : List (Option Value)) (i : Nat) (q : Nat × Value), q ∈ xlg i L ↔ i ≤ q.1 ∧ L[q.1 - i]? = some (some q.2)
  | [], i, q => by simp [xlg]
  | none :: t, i, q => by
    rw [show xlg i (none :: t) = xlg (i + 1) t from rfl, xlg_mem t (i + 1) q]
    constructor
    · intro ⟨h1, h2⟩
      refine ⟨by omega, ?_⟩
      rw [show q.1 - i = (q.1 - (i + 1)) + 1 by omega]
      exact h2
    · intro ⟨h1, h2⟩
      have h3 : q.1 ≠ i := fun h => by rw [h, Nat.sub_self] at h2; cases h2
      rw [show q.1 - i = (q.1 - (i + 1)) + 1 by omega] at h2
      exact ⟨by omega, h2⟩
  | some v :: t, i, q => by
    rw [show xlg i (some v :: t) = (i, v) :: xlg (i + 1) t from rfl, List.mem_cons, xlg_mem t (i + 1) q]
    constructor
    · rintro (rfl | ⟨h1, h2⟩)
      · exact ⟨Nat.le_refl _, by rw [Nat.sub_self]; rfl⟩
      · refine ⟨by omega, ?_⟩
        rw [show q.1 - i = (q.1 - (i + 1)) + 1 by omega]
        exact h2
    · intro ⟨h1, h2⟩
      by_cases h3 : q.1 = i
      · left
        rw [h3, Nat.sub_self] at h2
        cases h2
        exact Prod.ext h3 rfl
      · right
        rw [show q.1 - i = (q.1 - (i + 1)) + 1 by omega] at h2
        exact ⟨by omega, h2⟩
theorem xl_get {ls : Array Slot} {n : Nat} {L : List (Option Value)} (h : lv_has ls n (xlg 0 L)) {i : Nat} {v : Value} (hi : L[i]? = some (some v)) : ls[i]? = some (.val v) := h.2.2 (i, v) ((xlg_mem L 0 (i, v)).mpr ⟨Nat.zero_le _, hi⟩)
/-- no long ends at i -/
def xlc (L : List (Option Value)) : Nat → Bool
  | 0 => true
  | i + 1 => match L[i]? with
    | some (some v) => v.category == 1
    | _ => true
theorem xl_set {ls : Array Slot} {n : Nat} {L : List (Option Value)} {i : Nat} {v : Value} (hc : xlc L i = true) (h : lv_has ls n ((i, v) :: (xlg 0 L).filter (fun q => !(q.1 == i) && !(q.1 + 1 == i && q.2.category == 2)))) : lv_has ls n (xlg 0 (L.set i (some v))) := by
  refine ⟨h.1, h.2.1, fun q hq => ?_⟩
  obtain ⟨-, hq2⟩ := (xlg_mem _ 0 q).mp hq
  clear hq
  have hq := hq2
  clear hq2
  rw [Nat.sub_zero] at hq
  by_cases hi : q.1 = i
  · rw [hi] at hq
    have hlt : i < L.length := by
      rcases Nat.lt_or_ge i L.length with a | a
      · exact a
      · rw [List.getElem?_eq_none (by rw [List.length_set]; exact a)] at hq
        cases hq
    rw [List.getElem?_set_self hlt] at hq
    cases hq
    exact h.2.2 q (List.mem_cons.mpr (Or.inl (Prod.ext hi rfl)))
  · rw [List.getElem?_set_ne (fun a => hi a.symm)] at hq
    refine h.2.2 q (List.mem_cons.mpr (Or.inr (List.mem_filter.mpr ⟨(xlg_mem L 0 q).mpr ⟨Nat.zero_le _, hq⟩, ?_⟩)))
    simp only [Bool.and_eq_true, Bool.not_eq_true', beq_eq_false_iff_ne, ne_eq, hi, not_false_eq_true, true_and, Bool.and_eq_false_iff]
    by_cases h2 : q.1 + 1 = i
    · right
      subst h2
      have hc : (match L[q.1]? with | some (some v) => v.category == 1 | _ => true) = true := hc
      rw [hq] at hc
      have hc : (q.2.category == 1) = true := hc
      rw [beq_iff_eq] at hc
      omega
    · left
      exact h2
/-- fewer locals -/
def xLe : List (Option Value) → List (Option Value) → Prop
  | [], _ => True
  | none :: t, _ :: t' => xLe t t'
  | some v :: t, w :: t' => some v = w ∧ xLe t t'
  | none :: t, [] => xLe t []
  | some _ :: _, [] => False
theorem xLe_get : ∀ (L L' : List (Option Value)), xLe L L' → ∀ (i : Nat) (v : Value), L[i]? = some (some v) → L'[i]? = some (some v)
  | [], _, _, i, v, h => by simp at h
  | none :: t, _ :: t', hl, 0, v, h => by simp at h
  | none :: t, _ :: t', hl, i + 1, v, h => xLe_get t t' hl i v h
  | some _ :: t, w :: t', hl, 0, v, h => by cases h; exact congrArg some hl.1.symm
  | some _ :: t, w :: t', hl, i + 1, v, h => xLe_get t t' hl.2 i v h
  | none :: t, [], hl, 0, v, h => by simp at h
  | none :: t, [], hl, i + 1, v, h => by
    have := xLe_get t [] hl i v h
    simp at this
  | some _ :: _, [], hl, _, _, _ => hl.elim
theorem xl_less {ls : Array Slot} {n : Nat} {L L' : List (Option Value)} (h : lv_has ls n (xlg 0 L')) (hl : xLe L L') : lv_has ls n (xlg 0 L) :=
  ⟨h.1, h.2.1, fun q hq => by
    obtain ⟨-, hq⟩ := (xlg_mem L 0 q).mp hq
    rw [Nat.sub_zero] at hq
    exact xl_get h (xLe_get L L' hl q.1 q.2 hq)⟩
/-- a contract's start and end: from the world of h to that of h', answering rv -/
def xP (γ : xG) (S : xS) (av : List Value) (h : xH) (sz : Nat) : Array Value → State → Prop := va_Pc av (fun U => U.heap.size = sz ∧ va_P γ.1 vwCl (xws γ S h) U.heap ∧ va_K γ.1 vwCl (xTy γ) U ∧ va_D (fun _ => True) (xws γ S h) ∧ xSt γ.2.2.1 (va_A (xws γ S h) sz) U U.heap)
def xQ (γ : xG) (S : xS) (rv : Option Value) (h' : xH) (A : Nat → Prop) : Array Value → State → Outcome → State → Prop := fun _ st oc t => oc = .returned rv ∧ va_P γ.1 vwCl (xws γ S h') t.heap ∧ va_D A (xws γ S h') ∧ va_F A st t
def xCT (l : Launch) (γ : xG) (S : xS) (y : MethodName) (cc : ByteArray) (nL : Nat) (ret : Option FieldType) (ht : Nat) (av : List Value) (h : xH) (rv : Option Value) (h' : xH) : Prop :=
  ∀ sz : Nat, Met l y (.code y cc nL ret :: xWS) (xR ht) (xP γ S av h sz) (xQ γ S rv h' (va_A (xws γ S h) sz)) 0 0 (va_A (xws γ S h) sz)
theorem xP_blind {γ : xG} {S : xS} {av : List Value} {h : xH} {sz : Nat} : FrameBlind (xP γ S av h sz) := by
  intro a U g mk q
  obtain ⟨q0, q1, qP, qK, qD, qS⟩ := q
  exact ⟨q0, q1, qP, va_K.moved (u := U) (U := U.calling g mk a) (Vm.Alike.refl U.vm) qK, qD, xSt.same (u := U) (U := U.calling g mk a) rfl qS⟩
abbrev xCx : Type := (Program × Launch × Env × State × MethodId × Array Value × List Frame × Method × Code) × (Nat → Prop) × Nat × Nat × xG × xS × Option Value × xH
def xB (C : xCx) (h : xH) (pc : Nat) (L : List (Option Value)) (st : List Value) : Prop := match C with
  | ((p, l, e, s, m, args, below, meth, c), A, nL, ht, γ, S, rv, hr) => ∀ (H : Heap) (locs : List Loc) (ls : Array Slot), va_P γ.1 vwCl (xws γ S h) H → va_D A (xws γ S h) → va_S A s.heap H locs → lv_has ls nL (xlg 0 L) → W p l e (xR ht) s m args below meth c H locs 0 0 (MQ below (xQ γ S rv hr A) args s 0 0 A) (F0 m pc ls st)
def xF (C : xCx) (cc : ByteArray) (own : String) (nL ht : Nat) (γ : xG) (S : xS) (rv : Option Value) (hr : xH) (l : Launch) (ret : Option FieldType) : Prop := match C with
  | ((p, l', _, s, m, args, _, meth, c), A, nL', ht', γ', S', rv', hr') => p.tables.exec = Jvm.exec ∧ c.code = cc ∧ c.maxLocals = nL ∧ nL' = nL ∧ ht' = ht ∧ γ' = γ ∧ S' = S ∧ rv' = rv ∧ hr' = hr ∧ l' = l ∧ s.vm.findClass own = some m.cls ∧ (∀ w ∈ xWS, w.before args s = true) ∧ va_K γ.1 vwCl (xTy γ) s ∧ xSt γ.2.2.1 A s s.heap ∧ (∀ q, s.heap.size ≤ q → A q) ∧ meth.sig.returnType = ret ∧ meth.locks = false
/-- a method's contract out of the walk of its body -/
theorem xCT.of {l : Launch} {γ : xG} {S : xS} {y : MethodName} {cc : ByteArray} {nL : Nat} {ret : Option FieldType} {ht : Nat} {av : List Value} {h h' : xH} {rv : Option Value} {own : String} {L : List (Option Value)}
    (hy : plainName y.cls = true) (hown : y.cls = own) (hn : Nat.ble (lg_sl av).length nL = true) (hL : xlg 0 L = lv_args 0 av) (body : ∀ C : xCx, xF C cc own nL ht γ S rv h' l ret → xB C h 0 L []) : xCT l γ S y cc nL ret ht av h rv h' := by
  intro sz
  refine Met.ofW (cc := cc) (maxL := nL) (ret := ret) hy rfl ?_
  intro p e s m args below meth c s₁ B hml hv
  obtain ⟨rfl, hsz, hP, hK, hD0, hst⟩ := hv
  subst hsz
  have hts := atoms_spec (ws := .code y cc nL ret :: xWS) B.pre
  have hw : s.vm.findClass own = some m.cls := hown ▸ findClass_of_methodNamed B.named
  have hl := lv_entry av (n := nL) (Nat.le_of_ble_eq_true hn)
  rw [lg_entry_eq]
  rw [← hL] at hl
  exact body ((p, l, e, s, m, av.toArray, below, meth, c), va_A (xws γ S h) s.heap.size, nL, ht, γ, S, rv, h') ⟨B.exec, B.bytes, hml, rfl, rfl, rfl, rfl, rfl, rfl, rfl, hw, fun w h => hts w (List.mem_cons_of_mem _ h), hK, hst, fun q h => Or.inr h, B.returns, B.notSynchronized⟩ s.heap [] _ hP hD0.self va_S.rf hl
section XR
variable {C : xCx} {cc : ByteArray} {own : String} {nL ht : Nat} {γ : xG} {S : xS} {rv : Option Value} {hr : xH} {l : Launch} {ret : Option FieldType} {h : xH} {pc pc' : Nat} {L : List (Option Value)} {st : List Value} {ρ : Type} {K : Option ρ} {R : ρ}
theorem xB_less {L' : List (Option Value)} (hl : xLe L' L) (k : xB C h pc L' st) : xB C h pc L st := by
  obtain ⟨⟨p, l', e, s, m, args, below, meth, c⟩, A, nL', ht', γ', S', rv', hr'⟩ := C
  exact fun H locs ls h1 h2 h3 h4 => k H locs ls h1 h2 h3 (xl_less h4 hl)
theorem xB_gen {X : xH} {f : xH → Option ρ} (e : nm X f = some R) (k : ∀ h' : xH, f h' = some R → xB C h' pc L st) : xB C X pc L st := k X e
theorem xB_l {L' : List (Option Value)} (k : xB C h pc L' st) (hl : xLe L' L) : xB C h pc L st := xB_less hl k
theorem xB_iconst (hF : xF C cc own nL ht γ S rv hr l ret) {n : Int} {v : Int32} (hd : xI cc pc (.iconst n) 1 pc') (hv : Int32.ofInt n = v) (k : xB C h pc' L (.int v :: st)) : xB C h pc L (st) := by
  obtain ⟨⟨p, l', e, s, m, args, below, meth, c⟩, A, nL', ht', γ', S', rv', hr'⟩ := C
  obtain ⟨hx, hb, hml, rfl, rfl, rfl, rfl, rfl, rfl, rfl, hown, hts, hK, hSt, hA, hrt, hlk⟩ := hF
  obtain ⟨hd, rfl⟩ := hd
  exact fun H locs ls h1 h2 h3 h4 => lv_iconst hx hb hd hv (k H locs ls h1 h2 h3 h4)
theorem xB_bipush (hF : xF C cc own nL ht γ S rv hr l ret) {n : Int} {v : Int32} (hd : xI cc pc (.bipush n) 2 pc') (hv : (Int8.ofInt n).toInt32 = v) (k : xB C h pc' L (.int v :: st)) : xB C h pc L (st) := by
  obtain ⟨⟨p, l', e, s, m, args, below, meth, c⟩, A, nL', ht', γ', S', rv', hr'⟩ := C
  obtain ⟨hx, hb, hml, rfl, rfl, rfl, rfl, rfl, rfl, rfl, hown, hts, hK, hSt, hA, hrt, hlk⟩ := hF
  obtain ⟨hd, rfl⟩ := hd
  exact fun H locs ls h1 h2 h3 h4 => lv_bipush hx hb hd hv (k H locs ls h1 h2 h3 h4)
theorem xB_sipush (hF : xF C cc own nL ht γ S rv hr l ret) {n : Int} {v : Int32} (hd : xI cc pc (.sipush n) 3 pc') (hv : (Int16.ofInt n).toInt32 = v) (k : xB C h pc' L (.int v :: st)) : xB C h pc L (st) := by
  obtain ⟨⟨p, l', e, s, m, args, below, meth, c⟩, A, nL', ht', γ', S', rv', hr'⟩ := C
  obtain ⟨hx, hb, hml, rfl, rfl, rfl, rfl, rfl, rfl, rfl, hown, hts, hK, hSt, hA, hrt, hlk⟩ := hF
  obtain ⟨hd, rfl⟩ := hd
  exact fun H locs ls h1 h2 h3 h4 => lv_sipush hx hb hd hv (k H locs ls h1 h2 h3 h4)
theorem xB_ldc (hF : xF C cc own nL ht γ S rv hr l ret) {index : Nat} {v : Int32} (hd : xI cc pc (.ldc index) 2 pc') (hw : Cond.constant own index v ∈ xWS) (k : xB C h pc' L (.int v :: st)) : xB C h pc L (st) := by
  obtain ⟨⟨p, l', e, s, m, args, below, meth, c⟩, A, nL', ht', γ', S', rv', hr'⟩ := C
  obtain ⟨hx, hb, hml, rfl, rfl, rfl, rfl, rfl, rfl, rfl, hown, hts, hK, hSt, hA, hrt, hlk⟩ := hF
  obtain ⟨hd, rfl⟩ := hd
  exact fun H locs ls h1 h2 h3 h4 => lv_ldc hx hb hown (hts _ hw) hd (k H locs ls h1 h2 h3 h4)
theorem xB_ldcw (hF : xF C cc own nL ht γ S rv hr l ret) {index : Nat} {v : Int32} (hd : xI cc pc (.ldc_w index) 3 pc') (hw : Cond.constant own index v ∈ xWS) (k : xB C h pc' L (.int v :: st)) : xB C h pc L (st) := by
  obtain ⟨⟨p, l', e, s, m, args, below, meth, c⟩, A, nL', ht', γ', S', rv', hr'⟩ := C
  obtain ⟨hx, hb, hml, rfl, rfl, rfl, rfl, rfl, rfl, rfl, hown, hts, hK, hSt, hA, hrt, hlk⟩ := hF
  obtain ⟨hd, rfl⟩ := hd
  exact fun H locs ls h1 h2 h3 h4 => lv_ldcw hx hb hown (hts _ hw) hd (k H locs ls h1 h2 h3 h4)
theorem xB_ldc2 (hF : xF C cc own nL ht γ S rv hr l ret) {index : Nat} {v : Int64} (hd : xI cc pc (.ldc2_w index) 3 pc') (hw : Cond.constantLong own index v ∈ xWS) (k : xB C h pc' L (.long v :: st)) : xB C h pc L (st) := by
  obtain ⟨⟨p, l', e, s, m, args, below, meth, c⟩, A, nL', ht', γ', S', rv', hr'⟩ := C
  obtain ⟨hx, hb, hml, rfl, rfl, rfl, rfl, rfl, rfl, rfl, hown, hts, hK, hSt, hA, hrt, hlk⟩ := hF
  obtain ⟨hd, rfl⟩ := hd
  exact fun H locs ls h1 h2 h3 h4 => lv_ldc2 hx hb hown (hts _ hw) hd (k H locs ls h1 h2 h3 h4)
theorem xB_lconst (hF : xF C cc own nL ht γ S rv hr l ret) {n : Fin 2} {v : Int64} (hd : xI cc pc (.lconst n) 1 pc') (hv : Int64.ofNat (n : Nat) = v) (k : xB C h pc' L (.long v :: st)) : xB C h pc L (st) := by
  obtain ⟨⟨p, l', e, s, m, args, below, meth, c⟩, A, nL', ht', γ', S', rv', hr'⟩ := C
  obtain ⟨hx, hb, hml, rfl, rfl, rfl, rfl, rfl, rfl, rfl, hown, hts, hK, hSt, hA, hrt, hlk⟩ := hF
  obtain ⟨hd, rfl⟩ := hd
  exact fun H locs ls h1 h2 h3 h4 => lv_lconst hx hb hd hv (k H locs ls h1 h2 h3 h4)
theorem xB_iload_n (hF : xF C cc own nL ht γ S rv hr l ret) {k0 : Fin 4} {x : Int32} (hd : xI cc pc (.iload_n k0) 1 pc') (hl : L[(k0 : Nat)]? = some (some (.int x))) (k : xB C h pc' L (.int x :: st)) : xB C h pc L (st) := by
  obtain ⟨⟨p, l', e, s, m, args, below, meth, c⟩, A, nL', ht', γ', S', rv', hr'⟩ := C
  obtain ⟨hx, hb, hml, rfl, rfl, rfl, rfl, rfl, rfl, rfl, hown, hts, hK, hSt, hA, hrt, hlk⟩ := hF
  obtain ⟨hd, rfl⟩ := hd
  exact fun H locs ls h1 h2 h3 h4 => lv_iload_n hx hb hd rfl (xl_get h4 hl) (k H locs ls h1 h2 h3 h4)
theorem xB_iload (hF : xF C cc own nL ht γ S rv hr l ret) {i : Nat} {x : Int32} (hd : xI cc pc (.iload i) 2 pc') (hl : L[i]? = some (some (.int x))) (k : xB C h pc' L (.int x :: st)) : xB C h pc L (st) := by
  obtain ⟨⟨p, l', e, s, m, args, below, meth, c⟩, A, nL', ht', γ', S', rv', hr'⟩ := C
  obtain ⟨hx, hb, hml, rfl, rfl, rfl, rfl, rfl, rfl, rfl, hown, hts, hK, hSt, hA, hrt, hlk⟩ := hF
  obtain ⟨hd, rfl⟩ := hd
  exact fun H locs ls h1 h2 h3 h4 => lv_iload hx hb hd (xl_get h4 hl) (k H locs ls h1 h2 h3 h4)
theorem xB_lload_n (hF : xF C cc own nL ht γ S rv hr l ret) {k0 : Fin 4} {x : Int64} (hd : xI cc pc (.lload_n k0) 1 pc') (hl : L[(k0 : Nat)]? = some (some (.long x))) (k : xB C h pc' L (.long x :: st)) : xB C h pc L (st) := by
  obtain ⟨⟨p, l', e, s, m, args, below, meth, c⟩, A, nL', ht', γ', S', rv', hr'⟩ := C
  obtain ⟨hx, hb, hml, rfl, rfl, rfl, rfl, rfl, rfl, rfl, hown, hts, hK, hSt, hA, hrt, hlk⟩ := hF
  obtain ⟨hd, rfl⟩ := hd
  exact fun H locs ls h1 h2 h3 h4 => lv_lload_n hx hb hd rfl (xl_get h4 hl) (k H locs ls h1 h2 h3 h4)
theorem xB_lload (hF : xF C cc own nL ht γ S rv hr l ret) {i : Nat} {x : Int64} (hd : xI cc pc (.lload i) 2 pc') (hl : L[i]? = some (some (.long x))) (k : xB C h pc' L (.long x :: st)) : xB C h pc L (st) := by
  obtain ⟨⟨p, l', e, s, m, args, below, meth, c⟩, A, nL', ht', γ', S', rv', hr'⟩ := C
  obtain ⟨hx, hb, hml, rfl, rfl, rfl, rfl, rfl, rfl, rfl, hown, hts, hK, hSt, hA, hrt, hlk⟩ := hF
  obtain ⟨hd, rfl⟩ := hd
  exact fun H locs ls h1 h2 h3 h4 => lv_lload hx hb hd (xl_get h4 hl) (k H locs ls h1 h2 h3 h4)
theorem xB_aload_n (hF : xF C cc own nL ht γ S rv hr l ret) {k0 : Fin 4} {x : Nat} (hd : xI cc pc (.aload_n k0) 1 pc') (hl : L[(k0 : Nat)]? = some (some (.ref x))) (k : xB C h pc' L (.ref x :: st)) : xB C h pc L (st) := by
  obtain ⟨⟨p, l', e, s, m, args, below, meth, c⟩, A, nL', ht', γ', S', rv', hr'⟩ := C
  obtain ⟨hx, hb, hml, rfl, rfl, rfl, rfl, rfl, rfl, rfl, hown, hts, hK, hSt, hA, hrt, hlk⟩ := hF
  obtain ⟨hd, rfl⟩ := hd
  exact fun H locs ls h1 h2 h3 h4 => lv_aload_n hx hb hd rfl (xl_get h4 hl) (k H locs ls h1 h2 h3 h4)
theorem xB_aload (hF : xF C cc own nL ht γ S rv hr l ret) {i : Nat} {x : Nat} (hd : xI cc pc (.aload i) 2 pc') (hl : L[i]? = some (some (.ref x))) (k : xB C h pc' L (.ref x :: st)) : xB C h pc L (st) := by
  obtain ⟨⟨p, l', e, s, m, args, below, meth, c⟩, A, nL', ht', γ', S', rv', hr'⟩ := C
  obtain ⟨hx, hb, hml, rfl, rfl, rfl, rfl, rfl, rfl, rfl, hown, hts, hK, hSt, hA, hrt, hlk⟩ := hF
  obtain ⟨hd, rfl⟩ := hd
  exact fun H locs ls h1 h2 h3 h4 => lv_aload hx hb hd (xl_get h4 hl) (k H locs ls h1 h2 h3 h4)
theorem xB_istore_n (hF : xF C cc own nL ht γ S rv hr l ret) {k0 : Fin 4} {x : Int32} {L' : List (Option Value)} (hd : xI cc pc (.istore_n k0) 1 pc') (hn : Nat.ble ((k0 : Nat) + 1) nL = true) (hc : xlc L (k0 : Nat) = true) (hL : L.set (k0 : Nat) (some (.int x)) = L') (k : xB C h pc' L' st) : xB C h pc L (.int x :: st) := by
  subst hL
  obtain ⟨⟨p, l', e, s, m, args, below, meth, c⟩, A, nL', ht', γ', S', rv', hr'⟩ := C
  obtain ⟨hx, hb, hml, rfl, rfl, rfl, rfl, rfl, rfl, rfl, hown, hts, hK, hSt, hA, hrt, hlk⟩ := hF
  obtain ⟨hd, rfl⟩ := hd
  exact fun H locs ls h1 h2 h3 h4 => lv_istore_n hx hb hd rfl h4 (Nat.le_of_ble_eq_true hn) rfl (fun ls2 h5 => k H locs ls2 h1 h2 h3 (xl_set hc h5))
theorem xB_istore (hF : xF C cc own nL ht γ S rv hr l ret) {i : Nat} {x : Int32} {L' : List (Option Value)} (hd : xI cc pc (.istore i) 2 pc') (hn : Nat.ble (i + 1) nL = true) (hc : xlc L i = true) (hL : L.set i (some (.int x)) = L') (k : xB C h pc' L' st) : xB C h pc L (.int x :: st) := by
  subst hL
  obtain ⟨⟨p, l', e, s, m, args, below, meth, c⟩, A, nL', ht', γ', S', rv', hr'⟩ := C
  obtain ⟨hx, hb, hml, rfl, rfl, rfl, rfl, rfl, rfl, rfl, hown, hts, hK, hSt, hA, hrt, hlk⟩ := hF
  obtain ⟨hd, rfl⟩ := hd
  exact fun H locs ls h1 h2 h3 h4 => lv_istore hx hb hd h4 (Nat.le_of_ble_eq_true hn) rfl (fun ls2 h5 => k H locs ls2 h1 h2 h3 (xl_set hc h5))
theorem xB_astore_n (hF : xF C cc own nL ht γ S rv hr l ret) {k0 : Fin 4} {x : Nat} {L' : List (Option Value)} (hd : xI cc pc (.astore_n k0) 1 pc') (hn : Nat.ble ((k0 : Nat) + 1) nL = true) (hc : xlc L (k0 : Nat) = true) (hL : L.set (k0 : Nat) (some (.ref x)) = L') (k : xB C h pc' L' st) : xB C h pc L (.ref x :: st) := by
  subst hL
  obtain ⟨⟨p, l', e, s, m, args, below, meth, c⟩, A, nL', ht', γ', S', rv', hr'⟩ := C
  obtain ⟨hx, hb, hml, rfl, rfl, rfl, rfl, rfl, rfl, rfl, hown, hts, hK, hSt, hA, hrt, hlk⟩ := hF
  obtain ⟨hd, rfl⟩ := hd
  exact fun H locs ls h1 h2 h3 h4 => lv_astore_n hx hb hd rfl h4 (Nat.le_of_ble_eq_true hn) rfl (fun ls2 h5 => k H locs ls2 h1 h2 h3 (xl_set hc h5))
theorem xB_astore (hF : xF C cc own nL ht γ S rv hr l ret) {i : Nat} {x : Nat} {L' : List (Option Value)} (hd : xI cc pc (.astore i) 2 pc') (hn : Nat.ble (i + 1) nL = true) (hc : xlc L i = true) (hL : L.set i (some (.ref x)) = L') (k : xB C h pc' L' st) : xB C h pc L (.ref x :: st) := by
  subst hL
  obtain ⟨⟨p, l', e, s, m, args, below, meth, c⟩, A, nL', ht', γ', S', rv', hr'⟩ := C
  obtain ⟨hx, hb, hml, rfl, rfl, rfl, rfl, rfl, rfl, rfl, hown, hts, hK, hSt, hA, hrt, hlk⟩ := hF
  obtain ⟨hd, rfl⟩ := hd
  exact fun H locs ls h1 h2 h3 h4 => lv_astore hx hb hd h4 (Nat.le_of_ble_eq_true hn) rfl (fun ls2 h5 => k H locs ls2 h1 h2 h3 (xl_set hc h5))
theorem xB_iinc (hF : xF C cc own nL ht γ S rv hr l ret) {i : Nat} {n : Int} {x y : Int32} {L' : List (Option Value)} (hd : xI cc pc (.iinc i n) 3 pc') (hl : L[i]? = some (some (.int x))) (hy : Int32.ofInt n = y) (hn : Nat.ble (i + 1) nL = true) (hc : xlc L i = true) (hL : L.set i (some (.int (x + y))) = L') (k : xB C h pc' L' st) : xB C h pc L st := by
  subst hL; subst hy
  obtain ⟨⟨p, l', e, s, m, args, below, meth, c⟩, A, nL', ht', γ', S', rv', hr'⟩ := C
  obtain ⟨hx, hb, hml, rfl, rfl, rfl, rfl, rfl, rfl, rfl, hown, hts, hK, hSt, hA, hrt, hlk⟩ := hF
  obtain ⟨hd, rfl⟩ := hd
  intro H locs ls h1 h2 h3 h4
  obtain ⟨k9, hk9⟩ := List.getElem?_of_mem ((xlg_mem L 0 (i, .int x)).mpr ⟨Nat.zero_le _, hl⟩)
  exact lv_iinc hx hb hd h4 (k := k9) hk9 rfl (Nat.le_of_ble_eq_true hn) rfl (fun ls2 h5 => k H locs ls2 h1 h2 h3 (xl_set hc h5))
theorem xB_iadd (hF : xF C cc own nL ht γ S rv hr l ret) {x y : Int32} (hd : xI cc pc .iadd 1 pc')  (k : xB C h pc' L (.int (x + y) :: st)) : xB C h pc L (.int y :: .int x :: st) := by
  obtain ⟨⟨p, l', e, s, m, args, below, meth, c⟩, A, nL', ht', γ', S', rv', hr'⟩ := C
  obtain ⟨hx, hb, hml, rfl, rfl, rfl, rfl, rfl, rfl, rfl, hown, hts, hK, hSt, hA, hrt, hlk⟩ := hF
  obtain ⟨hd, rfl⟩ := hd
  exact fun H locs ls h1 h2 h3 h4 => lv_iadd hx hb hd (k H locs ls h1 h2 h3 h4)
theorem xB_isub (hF : xF C cc own nL ht γ S rv hr l ret) {x y : Int32} (hd : xI cc pc .isub 1 pc')  (k : xB C h pc' L (.int (x - y) :: st)) : xB C h pc L (.int y :: .int x :: st) := by
  obtain ⟨⟨p, l', e, s, m, args, below, meth, c⟩, A, nL', ht', γ', S', rv', hr'⟩ := C
  obtain ⟨hx, hb, hml, rfl, rfl, rfl, rfl, rfl, rfl, rfl, hown, hts, hK, hSt, hA, hrt, hlk⟩ := hF
  obtain ⟨hd, rfl⟩ := hd
  exact fun H locs ls h1 h2 h3 h4 => lv_isub hx hb hd (k H locs ls h1 h2 h3 h4)
theorem xB_imul (hF : xF C cc own nL ht γ S rv hr l ret) {x y : Int32} (hd : xI cc pc .imul 1 pc')  (k : xB C h pc' L (.int (x * y) :: st)) : xB C h pc L (.int y :: .int x :: st) := by
  obtain ⟨⟨p, l', e, s, m, args, below, meth, c⟩, A, nL', ht', γ', S', rv', hr'⟩ := C
  obtain ⟨hx, hb, hml, rfl, rfl, rfl, rfl, rfl, rfl, rfl, hown, hts, hK, hSt, hA, hrt, hlk⟩ := hF
  obtain ⟨hd, rfl⟩ := hd
  exact fun H locs ls h1 h2 h3 h4 => lv_imul hx hb hd (k H locs ls h1 h2 h3 h4)
theorem xB_iand (hF : xF C cc own nL ht γ S rv hr l ret) {x y : Int32} (hd : xI cc pc .iand 1 pc')  (k : xB C h pc' L (.int (x &&& y) :: st)) : xB C h pc L (.int y :: .int x :: st) := by
  obtain ⟨⟨p, l', e, s, m, args, below, meth, c⟩, A, nL', ht', γ', S', rv', hr'⟩ := C
  obtain ⟨hx, hb, hml, rfl, rfl, rfl, rfl, rfl, rfl, rfl, hown, hts, hK, hSt, hA, hrt, hlk⟩ := hF
  obtain ⟨hd, rfl⟩ := hd
  exact fun H locs ls h1 h2 h3 h4 => lv_iand hx hb hd (k H locs ls h1 h2 h3 h4)
theorem xB_ior (hF : xF C cc own nL ht γ S rv hr l ret) {x y : Int32} (hd : xI cc pc .ior 1 pc')  (k : xB C h pc' L (.int (x ||| y) :: st)) : xB C h pc L (.int y :: .int x :: st) := by
  obtain ⟨⟨p, l', e, s, m, args, below, meth, c⟩, A, nL', ht', γ', S', rv', hr'⟩ := C
  obtain ⟨hx, hb, hml, rfl, rfl, rfl, rfl, rfl, rfl, rfl, hown, hts, hK, hSt, hA, hrt, hlk⟩ := hF
  obtain ⟨hd, rfl⟩ := hd
  exact fun H locs ls h1 h2 h3 h4 => lv_ior hx hb hd (k H locs ls h1 h2 h3 h4)
theorem xB_ishl (hF : xF C cc own nL ht γ S rv hr l ret) {x y : Int32} (hd : xI cc pc .ishl 1 pc')  (k : xB C h pc' L (.int (x <<< (y &&& 31)) :: st)) : xB C h pc L (.int y :: .int x :: st) := by
  obtain ⟨⟨p, l', e, s, m, args, below, meth, c⟩, A, nL', ht', γ', S', rv', hr'⟩ := C
  obtain ⟨hx, hb, hml, rfl, rfl, rfl, rfl, rfl, rfl, rfl, hown, hts, hK, hSt, hA, hrt, hlk⟩ := hF
  obtain ⟨hd, rfl⟩ := hd
  exact fun H locs ls h1 h2 h3 h4 => lv_ishl hx hb hd (k H locs ls h1 h2 h3 h4)
theorem xB_ishr (hF : xF C cc own nL ht γ S rv hr l ret) {x y : Int32} (hd : xI cc pc .ishr 1 pc')  (k : xB C h pc' L (.int (x >>> (y &&& 31)) :: st)) : xB C h pc L (.int y :: .int x :: st) := by
  obtain ⟨⟨p, l', e, s, m, args, below, meth, c⟩, A, nL', ht', γ', S', rv', hr'⟩ := C
  obtain ⟨hx, hb, hml, rfl, rfl, rfl, rfl, rfl, rfl, rfl, hown, hts, hK, hSt, hA, hrt, hlk⟩ := hF
  obtain ⟨hd, rfl⟩ := hd
  exact fun H locs ls h1 h2 h3 h4 => lv_ishr hx hb hd (k H locs ls h1 h2 h3 h4)
theorem xB_iushr (hF : xF C cc own nL ht γ S rv hr l ret) {x y : Int32} (hd : xI cc pc .iushr 1 pc')  (k : xB C h pc' L (.int ((x.toUInt32 >>> (y.toUInt32 &&& Int32.toUInt32 31)).toInt32) :: st)) : xB C h pc L (.int y :: .int x :: st) := by
  obtain ⟨⟨p, l', e, s, m, args, below, meth, c⟩, A, nL', ht', γ', S', rv', hr'⟩ := C
  obtain ⟨hx, hb, hml, rfl, rfl, rfl, rfl, rfl, rfl, rfl, hown, hts, hK, hSt, hA, hrt, hlk⟩ := hF
  obtain ⟨hd, rfl⟩ := hd
  exact fun H locs ls h1 h2 h3 h4 => lv_iushr hx hb hd rfl (k H locs ls h1 h2 h3 h4)
theorem xB_idiv (hF : xF C cc own nL ht γ S rv hr l ret) {x y : Int32} (hd : xI cc pc .idiv 1 pc') (e : gz y K = some R) (k : K = some R → xB C h pc' L (.int (x / y) :: st)) : xB C h pc L (.int y :: .int x :: st) := by
  obtain ⟨hy, e⟩ := gz_of e
  have k := k e
  obtain ⟨⟨p, l', e, s, m, args, below, meth, c⟩, A, nL', ht', γ', S', rv', hr'⟩ := C
  obtain ⟨hx, hb, hml, rfl, rfl, rfl, rfl, rfl, rfl, rfl, hown, hts, hK, hSt, hA, hrt, hlk⟩ := hF
  obtain ⟨hd, rfl⟩ := hd
  exact fun H locs ls h1 h2 h3 h4 => lv_idiv hx hb hd hy (k H locs ls h1 h2 h3 h4)
theorem xB_irem (hF : xF C cc own nL ht γ S rv hr l ret) {x y : Int32} (hd : xI cc pc .irem 1 pc') (e : gz y K = some R) (k : K = some R → xB C h pc' L (.int (x - x / y * y) :: st)) : xB C h pc L (.int y :: .int x :: st) := by
  obtain ⟨hy, e⟩ := gz_of e
  have k := k e
  obtain ⟨⟨p, l', e, s, m, args, below, meth, c⟩, A, nL', ht', γ', S', rv', hr'⟩ := C
  obtain ⟨hx, hb, hml, rfl, rfl, rfl, rfl, rfl, rfl, rfl, hown, hts, hK, hSt, hA, hrt, hlk⟩ := hF
  obtain ⟨hd, rfl⟩ := hd
  exact fun H locs ls h1 h2 h3 h4 => lv_irem hx hb hd hy (k H locs ls h1 h2 h3 h4)
theorem xB_idivc (hF : xF C cc own nL ht γ S rv hr l ret) {x y : Int32} (hd : xI cc pc .idiv 1 pc') (hy : ¬ y = 0) (k : xB C h pc' L (.int (x / y) :: st)) : xB C h pc L (.int y :: .int x :: st) := by
  obtain ⟨⟨p, l', e, s, m, args, below, meth, c⟩, A, nL', ht', γ', S', rv', hr'⟩ := C
  obtain ⟨hx, hb, hml, rfl, rfl, rfl, rfl, rfl, rfl, rfl, hown, hts, hK, hSt, hA, hrt, hlk⟩ := hF
  obtain ⟨hd, rfl⟩ := hd
  exact fun H locs ls h1 h2 h3 h4 => lv_idiv hx hb hd hy (k H locs ls h1 h2 h3 h4)
theorem xB_iremc (hF : xF C cc own nL ht γ S rv hr l ret) {x y : Int32} (hd : xI cc pc .irem 1 pc') (hy : ¬ y = 0) (k : xB C h pc' L (.int (x - x / y * y) :: st)) : xB C h pc L (.int y :: .int x :: st) := by
  obtain ⟨⟨p, l', e, s, m, args, below, meth, c⟩, A, nL', ht', γ', S', rv', hr'⟩ := C
  obtain ⟨hx, hb, hml, rfl, rfl, rfl, rfl, rfl, rfl, rfl, hown, hts, hK, hSt, hA, hrt, hlk⟩ := hF
  obtain ⟨hd, rfl⟩ := hd
  exact fun H locs ls h1 h2 h3 h4 => lv_irem hx hb hd hy (k H locs ls h1 h2 h3 h4)
theorem xB_ineg (hF : xF C cc own nL ht γ S rv hr l ret) {x : Int32} (hd : xI cc pc .ineg 1 pc')  (k : xB C h pc' L (.int (-x) :: st)) : xB C h pc L (.int x :: st) := by
  obtain ⟨⟨p, l', e, s, m, args, below, meth, c⟩, A, nL', ht', γ', S', rv', hr'⟩ := C
  obtain ⟨hx, hb, hml, rfl, rfl, rfl, rfl, rfl, rfl, rfl, hown, hts, hK, hSt, hA, hrt, hlk⟩ := hF
  obtain ⟨hd, rfl⟩ := hd
  exact fun H locs ls h1 h2 h3 h4 => lv_ineg hx hb hd (k H locs ls h1 h2 h3 h4)
theorem xB_i2l (hF : xF C cc own nL ht γ S rv hr l ret) {x : Int32} (hd : xI cc pc .i2l 1 pc')  (k : xB C h pc' L (.long x.toInt64 :: st)) : xB C h pc L (.int x :: st) := by
  obtain ⟨⟨p, l', e, s, m, args, below, meth, c⟩, A, nL', ht', γ', S', rv', hr'⟩ := C
  obtain ⟨hx, hb, hml, rfl, rfl, rfl, rfl, rfl, rfl, rfl, hown, hts, hK, hSt, hA, hrt, hlk⟩ := hF
  obtain ⟨hd, rfl⟩ := hd
  exact fun H locs ls h1 h2 h3 h4 => lv_i2l hx hb hd rfl (k H locs ls h1 h2 h3 h4)
theorem xB_i2s (hF : xF C cc own nL ht γ S rv hr l ret) {x : Int32} (hd : xI cc pc .i2s 1 pc')  (k : xB C h pc' L (.int x.toInt16.toInt32 :: st)) : xB C h pc L (.int x :: st) := by
  obtain ⟨⟨p, l', e, s, m, args, below, meth, c⟩, A, nL', ht', γ', S', rv', hr'⟩ := C
  obtain ⟨hx, hb, hml, rfl, rfl, rfl, rfl, rfl, rfl, rfl, hown, hts, hK, hSt, hA, hrt, hlk⟩ := hF
  obtain ⟨hd, rfl⟩ := hd
  exact fun H locs ls h1 h2 h3 h4 => lv_i2s hx hb hd rfl (k H locs ls h1 h2 h3 h4)
theorem xB_i2c (hF : xF C cc own nL ht γ S rv hr l ret) {x : Int32} (hd : xI cc pc .i2c 1 pc')  (k : xB C h pc' L (.int (x.toUInt32 % 65536).toInt32 :: st)) : xB C h pc L (.int x :: st) := by
  obtain ⟨⟨p, l', e, s, m, args, below, meth, c⟩, A, nL', ht', γ', S', rv', hr'⟩ := C
  obtain ⟨hx, hb, hml, rfl, rfl, rfl, rfl, rfl, rfl, rfl, hown, hts, hK, hSt, hA, hrt, hlk⟩ := hF
  obtain ⟨hd, rfl⟩ := hd
  exact fun H locs ls h1 h2 h3 h4 => lv_i2c hx hb hd rfl (k H locs ls h1 h2 h3 h4)
theorem xB_ladd (hF : xF C cc own nL ht γ S rv hr l ret) {x y : Int64} (hd : xI cc pc .ladd 1 pc')  (k : xB C h pc' L (.long (x + y) :: st)) : xB C h pc L (.long y :: .long x :: st) := by
  obtain ⟨⟨p, l', e, s, m, args, below, meth, c⟩, A, nL', ht', γ', S', rv', hr'⟩ := C
  obtain ⟨hx, hb, hml, rfl, rfl, rfl, rfl, rfl, rfl, rfl, hown, hts, hK, hSt, hA, hrt, hlk⟩ := hF
  obtain ⟨hd, rfl⟩ := hd
  exact fun H locs ls h1 h2 h3 h4 => lv_ladd hx hb hd (k H locs ls h1 h2 h3 h4)
theorem xB_lcmp (hF : xF C cc own nL ht γ S rv hr l ret) {x y : Int64} (hd : xI cc pc .lcmp 1 pc')  (k : xB C h pc' L (.int (lg_cmp x y) :: st)) : xB C h pc L (.long y :: .long x :: st) := by
  obtain ⟨⟨p, l', e, s, m, args, below, meth, c⟩, A, nL', ht', γ', S', rv', hr'⟩ := C
  obtain ⟨hx, hb, hml, rfl, rfl, rfl, rfl, rfl, rfl, rfl, hown, hts, hK, hSt, hA, hrt, hlk⟩ := hF
  obtain ⟨hd, rfl⟩ := hd
  exact fun H locs ls h1 h2 h3 h4 => W.lcmp hx hb hd (k H locs ls h1 h2 h3 h4)
theorem xB_dup (hF : xF C cc own nL ht γ S rv hr l ret) {v : Value} (hd : xI cc pc .dup 1 pc') (hv : v.category = 1) (k : xB C h pc' L (v :: v :: st)) : xB C h pc L (v :: st) := by
  obtain ⟨⟨p, l', e, s, m, args, below, meth, c⟩, A, nL', ht', γ', S', rv', hr'⟩ := C
  obtain ⟨hx, hb, hml, rfl, rfl, rfl, rfl, rfl, rfl, rfl, hown, hts, hK, hSt, hA, hrt, hlk⟩ := hF
  obtain ⟨hd, rfl⟩ := hd
  exact fun H locs ls h1 h2 h3 h4 => lv_dup hx hb hd hv (k H locs ls h1 h2 h3 h4)
theorem xB_pop (hF : xF C cc own nL ht γ S rv hr l ret) {v : Value} (hd : xI cc pc .pop 1 pc') (hv : v.category = 1) (k : xB C h pc' L (st)) : xB C h pc L (v :: st) := by
  obtain ⟨⟨p, l', e, s, m, args, below, meth, c⟩, A, nL', ht', γ', S', rv', hr'⟩ := C
  obtain ⟨hx, hb, hml, rfl, rfl, rfl, rfl, rfl, rfl, rfl, hown, hts, hK, hSt, hA, hrt, hlk⟩ := hF
  obtain ⟨hd, rfl⟩ := hd
  exact fun H locs ls h1 h2 h3 h4 => lv_pop hx hb hd hv (k H locs ls h1 h2 h3 h4)
theorem xB_dup2 (hF : xF C cc own nL ht γ S rv hr l ret) {u v : Value} (hd : xI cc pc .dup2 1 pc') (hu : u.category = 1) (hv : v.category = 1) (k : xB C h pc' L (u :: v :: u :: v :: st)) : xB C h pc L (u :: v :: st) := by
  obtain ⟨⟨p, l', e, s, m, args, below, meth, c⟩, A, nL', ht', γ', S', rv', hr'⟩ := C
  obtain ⟨hx, hb, hml, rfl, rfl, rfl, rfl, rfl, rfl, rfl, hown, hts, hK, hSt, hA, hrt, hlk⟩ := hF
  obtain ⟨hd, rfl⟩ := hd
  exact fun H locs ls h1 h2 h3 h4 => lv_dup2_11 hx hb hd hu hv (k H locs ls h1 h2 h3 h4)
theorem xB_goto (hF : xF C cc own nL ht γ S rv hr l ret) {off : Int} {tgt : Nat} (hd : xI cc pc (.goto off) 3 pc') (ht : (pc : Int) + off = (tgt : Int)) (k : xB C h tgt L st) : xB C h pc L st := by
  obtain ⟨⟨p, l', e, s, m, args, below, meth, c⟩, A, nL', ht', γ', S', rv', hr'⟩ := C
  obtain ⟨hx, hb, hml, rfl, rfl, rfl, rfl, rfl, rfl, rfl, hown, hts, hK, hSt, hA, hrt, hlk⟩ := hF
  obtain ⟨hd, rfl⟩ := hd
  exact fun H locs ls h1 h2 h3 h4 => lv_goto hx hb hd ht (k H locs ls h1 h2 h3 h4)
theorem xB_icmp_eq (hF : xF C cc own nL ht γ S rv hr l ret) {x y : Int32} {K2 : Option ρ} {off : Int} {tgt : Nat} (hd : xI cc pc (.if_icmp .eq off) 3 pc') (ht : (pc : Int) + off = (tgt : Int)) (e : (if x = y then K else K2) = some R) (kt : x = y → K = some R → xB C h tgt L st) (kf : ¬ x = y → K2 = some R → xB C h pc' L st) : xB C h pc L (.int y :: .int x :: st) := by
  have kt : x = y → xB C h tgt L st := fun c => kt c (by rw [if_pos c] at e; exact e)
  have kf : ¬ x = y → xB C h pc' L st := fun c => kf c (by rw [if_neg c] at e; exact e)
  obtain ⟨⟨p, l', e, s, m, args, below, meth, c⟩, A, nL', ht', γ', S', rv', hr'⟩ := C
  obtain ⟨hx, hb, hml, rfl, rfl, rfl, rfl, rfl, rfl, rfl, hown, hts, hK, hSt, hA, hrt, hlk⟩ := hF
  obtain ⟨hd, rfl⟩ := hd
  exact fun H locs ls h1 h2 h3 h4 => lv_icmp_eq hx hb hd ht (fun c => kt c H locs ls h1 h2 h3 h4) (fun c => kf c H locs ls h1 h2 h3 h4)
theorem xB_if_eq (hF : xF C cc own nL ht γ S rv hr l ret) {x : Int32} {K2 : Option ρ} {off : Int} {tgt : Nat} (hd : xI cc pc (.ifCond .eq off) 3 pc') (ht : (pc : Int) + off = (tgt : Int)) (e : (if x = 0 then K else K2) = some R) (kt : x = 0 → K = some R → xB C h tgt L st) (kf : ¬ x = 0 → K2 = some R → xB C h pc' L st) : xB C h pc L (.int x :: st) := by
  have kt : x = 0 → xB C h tgt L st := fun c => kt c (by rw [if_pos c] at e; exact e)
  have kf : ¬ x = 0 → xB C h pc' L st := fun c => kf c (by rw [if_neg c] at e; exact e)
  obtain ⟨⟨p, l', e, s, m, args, below, meth, c⟩, A, nL', ht', γ', S', rv', hr'⟩ := C
  obtain ⟨hx, hb, hml, rfl, rfl, rfl, rfl, rfl, rfl, rfl, hown, hts, hK, hSt, hA, hrt, hlk⟩ := hF
  obtain ⟨hd, rfl⟩ := hd
  exact fun H locs ls h1 h2 h3 h4 => lv_if_eq hx hb hd ht (fun c => kt c H locs ls h1 h2 h3 h4) (fun c => kf c H locs ls h1 h2 h3 h4)
theorem xB_icmp_ne (hF : xF C cc own nL ht γ S rv hr l ret) {x y : Int32} {K2 : Option ρ} {off : Int} {tgt : Nat} (hd : xI cc pc (.if_icmp .ne off) 3 pc') (ht : (pc : Int) + off = (tgt : Int)) (e : (if x = y then K else K2) = some R) (kf : x = y → K = some R → xB C h pc' L st) (kt : ¬ x = y → K2 = some R → xB C h tgt L st) : xB C h pc L (.int y :: .int x :: st) := by
  have kf : x = y → xB C h pc' L st := fun c => kf c (by rw [if_pos c] at e; exact e)
  have kt : ¬ x = y → xB C h tgt L st := fun c => kt c (by rw [if_neg c] at e; exact e)
  obtain ⟨⟨p, l', e, s, m, args, below, meth, c⟩, A, nL', ht', γ', S', rv', hr'⟩ := C
  obtain ⟨hx, hb, hml, rfl, rfl, rfl, rfl, rfl, rfl, rfl, hown, hts, hK, hSt, hA, hrt, hlk⟩ := hF
  obtain ⟨hd, rfl⟩ := hd
  exact fun H locs ls h1 h2 h3 h4 => lv_icmp_ne hx hb hd ht (fun c => kt c H locs ls h1 h2 h3 h4) (fun c => kf c H locs ls h1 h2 h3 h4)
theorem xB_if_ne (hF : xF C cc own nL ht γ S rv hr l ret) {x : Int32} {K2 : Option ρ} {off : Int} {tgt : Nat} (hd : xI cc pc (.ifCond .ne off) 3 pc') (ht : (pc : Int) + off = (tgt : Int)) (e : (if x = 0 then K else K2) = some R) (kf : x = 0 → K = some R → xB C h pc' L st) (kt : ¬ x = 0 → K2 = some R → xB C h tgt L st) : xB C h pc L (.int x :: st) := by
  have kf : x = 0 → xB C h pc' L st := fun c => kf c (by rw [if_pos c] at e; exact e)
  have kt : ¬ x = 0 → xB C h tgt L st := fun c => kt c (by rw [if_neg c] at e; exact e)
  obtain ⟨⟨p, l', e, s, m, args, below, meth, c⟩, A, nL', ht', γ', S', rv', hr'⟩ := C
  obtain ⟨hx, hb, hml, rfl, rfl, rfl, rfl, rfl, rfl, rfl, hown, hts, hK, hSt, hA, hrt, hlk⟩ := hF
  obtain ⟨hd, rfl⟩ := hd
  exact fun H locs ls h1 h2 h3 h4 => lv_if_ne hx hb hd ht (fun c => kt c H locs ls h1 h2 h3 h4) (fun c => kf c H locs ls h1 h2 h3 h4)
theorem xB_icmp_lt (hF : xF C cc own nL ht γ S rv hr l ret) {x y : Int32} {K2 : Option ρ} {off : Int} {tgt : Nat} (hd : xI cc pc (.if_icmp .lt off) 3 pc') (ht : (pc : Int) + off = (tgt : Int)) (e : (if x < y then K else K2) = some R) (kt : x < y → K = some R → xB C h tgt L st) (kf : ¬ x < y → K2 = some R → xB C h pc' L st) : xB C h pc L (.int y :: .int x :: st) := by
  have kt : x < y → xB C h tgt L st := fun c => kt c (by rw [if_pos c] at e; exact e)
  have kf : ¬ x < y → xB C h pc' L st := fun c => kf c (by rw [if_neg c] at e; exact e)
  obtain ⟨⟨p, l', e, s, m, args, below, meth, c⟩, A, nL', ht', γ', S', rv', hr'⟩ := C
  obtain ⟨hx, hb, hml, rfl, rfl, rfl, rfl, rfl, rfl, rfl, hown, hts, hK, hSt, hA, hrt, hlk⟩ := hF
  obtain ⟨hd, rfl⟩ := hd
  exact fun H locs ls h1 h2 h3 h4 => lv_icmp_lt hx hb hd ht (fun c => kt c H locs ls h1 h2 h3 h4) (fun c => kf c H locs ls h1 h2 h3 h4)
theorem xB_if_lt (hF : xF C cc own nL ht γ S rv hr l ret) {x : Int32} {K2 : Option ρ} {off : Int} {tgt : Nat} (hd : xI cc pc (.ifCond .lt off) 3 pc') (ht : (pc : Int) + off = (tgt : Int)) (e : (if x < 0 then K else K2) = some R) (kt : x < 0 → K = some R → xB C h tgt L st) (kf : ¬ x < 0 → K2 = some R → xB C h pc' L st) : xB C h pc L (.int x :: st) := by
  have kt : x < 0 → xB C h tgt L st := fun c => kt c (by rw [if_pos c] at e; exact e)
  have kf : ¬ x < 0 → xB C h pc' L st := fun c => kf c (by rw [if_neg c] at e; exact e)
  obtain ⟨⟨p, l', e, s, m, args, below, meth, c⟩, A, nL', ht', γ', S', rv', hr'⟩ := C
  obtain ⟨hx, hb, hml, rfl, rfl, rfl, rfl, rfl, rfl, rfl, hown, hts, hK, hSt, hA, hrt, hlk⟩ := hF
  obtain ⟨hd, rfl⟩ := hd
  exact fun H locs ls h1 h2 h3 h4 => lv_if_lt hx hb hd ht (fun c => kt c H locs ls h1 h2 h3 h4) (fun c => kf c H locs ls h1 h2 h3 h4)
theorem xB_icmp_ge (hF : xF C cc own nL ht γ S rv hr l ret) {x y : Int32} {K2 : Option ρ} {off : Int} {tgt : Nat} (hd : xI cc pc (.if_icmp .ge off) 3 pc') (ht : (pc : Int) + off = (tgt : Int)) (e : (if y ≤ x then K else K2) = some R) (kt : y ≤ x → K = some R → xB C h tgt L st) (kf : ¬ y ≤ x → K2 = some R → xB C h pc' L st) : xB C h pc L (.int y :: .int x :: st) := by
  have kt : y ≤ x → xB C h tgt L st := fun c => kt c (by rw [if_pos c] at e; exact e)
  have kf : ¬ y ≤ x → xB C h pc' L st := fun c => kf c (by rw [if_neg c] at e; exact e)
  obtain ⟨⟨p, l', e, s, m, args, below, meth, c⟩, A, nL', ht', γ', S', rv', hr'⟩ := C
  obtain ⟨hx, hb, hml, rfl, rfl, rfl, rfl, rfl, rfl, rfl, hown, hts, hK, hSt, hA, hrt, hlk⟩ := hF
  obtain ⟨hd, rfl⟩ := hd
  exact fun H locs ls h1 h2 h3 h4 => lv_icmp_ge hx hb hd ht (fun c => kt c H locs ls h1 h2 h3 h4) (fun c => kf c H locs ls h1 h2 h3 h4)
theorem xB_if_ge (hF : xF C cc own nL ht γ S rv hr l ret) {x : Int32} {K2 : Option ρ} {off : Int} {tgt : Nat} (hd : xI cc pc (.ifCond .ge off) 3 pc') (ht : (pc : Int) + off = (tgt : Int)) (e : (if 0 ≤ x then K else K2) = some R) (kt : 0 ≤ x → K = some R → xB C h tgt L st) (kf : ¬ 0 ≤ x → K2 = some R → xB C h pc' L st) : xB C h pc L (.int x :: st) := by
  have kt : 0 ≤ x → xB C h tgt L st := fun c => kt c (by rw [if_pos c] at e; exact e)
  have kf : ¬ 0 ≤ x → xB C h pc' L st := fun c => kf c (by rw [if_neg c] at e; exact e)
  obtain ⟨⟨p, l', e, s, m, args, below, meth, c⟩, A, nL', ht', γ', S', rv', hr'⟩ := C
  obtain ⟨hx, hb, hml, rfl, rfl, rfl, rfl, rfl, rfl, rfl, hown, hts, hK, hSt, hA, hrt, hlk⟩ := hF
  obtain ⟨hd, rfl⟩ := hd
  exact fun H locs ls h1 h2 h3 h4 => lv_if_ge hx hb hd ht (fun c => kt c H locs ls h1 h2 h3 h4) (fun c => kf c H locs ls h1 h2 h3 h4)
theorem xB_icmp_gt (hF : xF C cc own nL ht γ S rv hr l ret) {x y : Int32} {K2 : Option ρ} {off : Int} {tgt : Nat} (hd : xI cc pc (.if_icmp .gt off) 3 pc') (ht : (pc : Int) + off = (tgt : Int)) (e : (if y < x then K else K2) = some R) (kt : y < x → K = some R → xB C h tgt L st) (kf : ¬ y < x → K2 = some R → xB C h pc' L st) : xB C h pc L (.int y :: .int x :: st) := by
  have kt : y < x → xB C h tgt L st := fun c => kt c (by rw [if_pos c] at e; exact e)
  have kf : ¬ y < x → xB C h pc' L st := fun c => kf c (by rw [if_neg c] at e; exact e)
  obtain ⟨⟨p, l', e, s, m, args, below, meth, c⟩, A, nL', ht', γ', S', rv', hr'⟩ := C
  obtain ⟨hx, hb, hml, rfl, rfl, rfl, rfl, rfl, rfl, rfl, hown, hts, hK, hSt, hA, hrt, hlk⟩ := hF
  obtain ⟨hd, rfl⟩ := hd
  exact fun H locs ls h1 h2 h3 h4 => lv_icmp_gt hx hb hd ht (fun c => kt c H locs ls h1 h2 h3 h4) (fun c => kf c H locs ls h1 h2 h3 h4)
theorem xB_if_gt (hF : xF C cc own nL ht γ S rv hr l ret) {x : Int32} {K2 : Option ρ} {off : Int} {tgt : Nat} (hd : xI cc pc (.ifCond .gt off) 3 pc') (ht : (pc : Int) + off = (tgt : Int)) (e : (if 0 < x then K else K2) = some R) (kt : 0 < x → K = some R → xB C h tgt L st) (kf : ¬ 0 < x → K2 = some R → xB C h pc' L st) : xB C h pc L (.int x :: st) := by
  have kt : 0 < x → xB C h tgt L st := fun c => kt c (by rw [if_pos c] at e; exact e)
  have kf : ¬ 0 < x → xB C h pc' L st := fun c => kf c (by rw [if_neg c] at e; exact e)
  obtain ⟨⟨p, l', e, s, m, args, below, meth, c⟩, A, nL', ht', γ', S', rv', hr'⟩ := C
  obtain ⟨hx, hb, hml, rfl, rfl, rfl, rfl, rfl, rfl, rfl, hown, hts, hK, hSt, hA, hrt, hlk⟩ := hF
  obtain ⟨hd, rfl⟩ := hd
  exact fun H locs ls h1 h2 h3 h4 => lv_if_gt hx hb hd ht (fun c => kt c H locs ls h1 h2 h3 h4) (fun c => kf c H locs ls h1 h2 h3 h4)
theorem xB_icmp_le (hF : xF C cc own nL ht γ S rv hr l ret) {x y : Int32} {K2 : Option ρ} {off : Int} {tgt : Nat} (hd : xI cc pc (.if_icmp .le off) 3 pc') (ht : (pc : Int) + off = (tgt : Int)) (e : (if x ≤ y then K else K2) = some R) (kt : x ≤ y → K = some R → xB C h tgt L st) (kf : ¬ x ≤ y → K2 = some R → xB C h pc' L st) : xB C h pc L (.int y :: .int x :: st) := by
  have kt : x ≤ y → xB C h tgt L st := fun c => kt c (by rw [if_pos c] at e; exact e)
  have kf : ¬ x ≤ y → xB C h pc' L st := fun c => kf c (by rw [if_neg c] at e; exact e)
  obtain ⟨⟨p, l', e, s, m, args, below, meth, c⟩, A, nL', ht', γ', S', rv', hr'⟩ := C
  obtain ⟨hx, hb, hml, rfl, rfl, rfl, rfl, rfl, rfl, rfl, hown, hts, hK, hSt, hA, hrt, hlk⟩ := hF
  obtain ⟨hd, rfl⟩ := hd
  exact fun H locs ls h1 h2 h3 h4 => lv_icmp_le hx hb hd ht (fun c => kt c H locs ls h1 h2 h3 h4) (fun c => kf c H locs ls h1 h2 h3 h4)
theorem xB_if_le (hF : xF C cc own nL ht γ S rv hr l ret) {x : Int32} {K2 : Option ρ} {off : Int} {tgt : Nat} (hd : xI cc pc (.ifCond .le off) 3 pc') (ht : (pc : Int) + off = (tgt : Int)) (e : (if x ≤ 0 then K else K2) = some R) (kt : x ≤ 0 → K = some R → xB C h tgt L st) (kf : ¬ x ≤ 0 → K2 = some R → xB C h pc' L st) : xB C h pc L (.int x :: st) := by
  have kt : x ≤ 0 → xB C h tgt L st := fun c => kt c (by rw [if_pos c] at e; exact e)
  have kf : ¬ x ≤ 0 → xB C h pc' L st := fun c => kf c (by rw [if_neg c] at e; exact e)
  obtain ⟨⟨p, l', e, s, m, args, below, meth, c⟩, A, nL', ht', γ', S', rv', hr'⟩ := C
  obtain ⟨hx, hb, hml, rfl, rfl, rfl, rfl, rfl, rfl, rfl, hown, hts, hK, hSt, hA, hrt, hlk⟩ := hF
  obtain ⟨hd, rfl⟩ := hd
  exact fun H locs ls h1 h2 h3 h4 => lv_if_le hx hb hd ht (fun c => kt c H locs ls h1 h2 h3 h4) (fun c => kf c H locs ls h1 h2 h3 h4)
theorem xB_tableIn (hF : xF C cc own nL ht γ S rv hr l ret) {dflt lo hi : Int} {offs : Array Int} {len : Nat} {x v : Int32} {off : Int} {tgt : Nat} (hd : xI cc pc (.tableswitch dflt lo hi offs) len pc') (hv : x = v) (h1 : ¬ v.toInt < lo) (h2 : ¬ hi < v.toInt) (ho : offs[(v.toInt - lo).toNat]? = some off) (ht : (pc : Int) + off = (tgt : Int)) (k : xB C h tgt L st) : xB C h pc L (.int x :: st) := by
  subst hv
  obtain ⟨⟨p, l', e, s, m, args, below, meth, c⟩, A, nL', ht', γ', S', rv', hr'⟩ := C
  obtain ⟨hx, hb, hml, rfl, rfl, rfl, rfl, rfl, rfl, rfl, hown, hts, hK, hSt, hA, hrt, hlk⟩ := hF
  obtain ⟨hd, rfl⟩ := hd
  exact fun H locs ls g1 g2 g3 g4 => lv_tableIn hx hb hd h1 h2 ho ht (k H locs ls g1 g2 g3 g4)
theorem xB_tableOut (hF : xF C cc own nL ht γ S rv hr l ret) {dflt lo hi : Int} {offs : Array Int} {len : Nat} {x : Int32} {tgt : Nat} (hd : xI cc pc (.tableswitch dflt lo hi offs) len pc') (ho : x.toInt < lo ∨ hi < x.toInt) (ht : (pc : Int) + dflt = (tgt : Int)) (k : xB C h tgt L st) : xB C h pc L (.int x :: st) := by
  obtain ⟨⟨p, l', e, s, m, args, below, meth, c⟩, A, nL', ht', γ', S', rv', hr'⟩ := C
  obtain ⟨hx, hb, hml, rfl, rfl, rfl, rfl, rfl, rfl, rfl, hown, hts, hK, hSt, hA, hrt, hlk⟩ := hF
  obtain ⟨hd, rfl⟩ := hd
  exact fun H locs ls g1 g2 g3 g4 => lv_tableOut hx hb hd ho ht (k H locs ls g1 g2 g3 g4)
theorem xB_lookup (hF : xF C cc own nL ht γ S rv hr l ret) {dflt : Int} {ps : Array (Int × Int)} {len : Nat} {x : Int32} {off : Int} {tgt : Nat} (hd : xI cc pc (.lookupswitch dflt ps) len pc') (hp : (ps.toList.zip (ps.toList.drop 1)).all (fun (a, next) => a.1 < next.1) = true) (ho : Op.lookupswitch.offset ps.toList dflt x.toInt = off) (ht : (pc : Int) + off = (tgt : Int)) (k : xB C h tgt L st) : xB C h pc L (.int x :: st) := by
  obtain ⟨⟨p, l', e, s, m, args, below, meth, c⟩, A, nL', ht', γ', S', rv', hr'⟩ := C
  obtain ⟨hx, hb, hml, rfl, rfl, rfl, rfl, rfl, rfl, rfl, hown, hts, hK, hSt, hA, hrt, hlk⟩ := hF
  obtain ⟨hd, rfl⟩ := hd
  exact fun H locs ls g1 g2 g3 g4 => lv_lookup hx hb hd hp ho ht (k H locs ls g1 g2 g3 g4)
theorem xB_tableD (hF : xF C cc own nL ht γ S rv hr l ret) {dflt lo hi : Int} {offs : Array Int} {len : Nat} {x : Int32} {tgt : Nat} (hd : xI cc pc (.tableswitch dflt lo hi offs) len pc') (ks : List Nat) (hall : (List.range offs.size).all (fun i => ks.contains i || offs[i]? == some dflt) = true) (hsz : (hi - lo).toNat < offs.size) (hk : ∀ i ∈ ks, x.toInt ≠ lo + (i : Int)) (ht : (pc : Int) + dflt = (tgt : Int)) (k : xB C h tgt L st) : xB C h pc L (.int x :: st) := by
  obtain ⟨⟨p, l', e, s, m, args, below, meth, c⟩, A, nL', ht', γ', S', rv', hr'⟩ := C
  obtain ⟨hx, hb, hml, rfl, rfl, rfl, rfl, rfl, rfl, rfl, hown, hts, hK, hSt, hA, hrt, hlk⟩ := hF
  obtain ⟨hd, rfl⟩ := hd
  intro H locs ls g1 g2 g3 g4
  by_cases c1 : x.toInt < lo
  · exact lv_tableOut hx hb hd (Or.inl c1) ht (k H locs ls g1 g2 g3 g4)
  by_cases c2 : hi < x.toInt
  · exact lv_tableOut hx hb hd (Or.inr c2) ht (k H locs ls g1 g2 g3 g4)
  refine lv_tableIn (off := dflt) hx hb hd c1 c2 ?_ ht (k H locs ls g1 g2 g3 g4)
  have hlt : (x.toInt - lo).toNat < offs.size := by omega
  have h9 := List.all_eq_true.mp hall _ (List.mem_range.mpr hlt)
  rw [Bool.or_eq_true] at h9
  rcases h9 with h9 | h9
  · exact absurd (by omega : x.toInt = lo + ((x.toInt - lo).toNat : Int)) (hk _ (List.contains_iff_mem.mp h9))
  · exact beq_iff_eq.mp h9
theorem xne {x v : Int32} {n : Int} (hv : v.toInt = n) (h : ¬ x = v) : x.toInt ≠ n := fun q => h (Int32.toInt_inj.mp (q.trans hv.symm))
theorem xlkD {x : Int32} {d : Int} : ∀ (ps : List (Int × Int)), (∀ q ∈ ps, x.toInt ≠ q.1) → Op.lookupswitch.offset ps d x.toInt = d
  | [], _ => rfl
  | (a, o) :: r, h => by
    rw [Op.lookupswitch.offset_cons, if_neg (fun z => h (a, o) List.mem_cons_self z.symm)]
    exact xlkD r (fun q hq => h q (List.mem_cons_of_mem _ hq))
theorem xlk {x v : Int32} {ps : List (Int × Int)} {d n : Int} (hx : x = v) (h : Op.lookupswitch.offset ps d v.toInt = n) : Op.lookupswitch.offset ps d x.toInt = n := hx ▸ h
end XR
/-! fields -/
def xFL (own : String) (idx ci j : Nat) : Prop := ∃ q : vw_C, vwCl[ci]? = some q ∧ (∀ w ∈ u_ws q.1 q.2.1 q.2.2, w ∈ xWS) ∧ Nat.ble (j + 1) q.2.2 = true ∧ Cond.fieldLink own idx (q.2.1 j).1 (q.2.1 j).2.1 (q.2.1 j).2.2.1 ∈ xWS
def xFP (own : String) (idx ci j : Nat) (ty : FieldType) : Prop := ∃ (q : vw_C) (ty0 : Nat → FieldType), vwCl[ci]? = some q ∧ (∀ w ∈ u_ws q.1 q.2.1 q.2.2, w ∈ xWS) ∧ Nat.ble (j + 1) q.2.2 = true ∧ Cond.fieldLink own idx (q.2.1 j).1 (q.2.1 j).2.1 (q.2.1 j).2.2.1 ∈ xWS ∧ (∀ k, k < q.2.2 → parseFieldDescriptor (q.2.1 k).2.2.1 = some (ty0 k)) ∧ (∀ a, a < q.2.2 → ∀ b, b < q.2.2 → a ≠ b → (q.2.1 a).2.1 ≠ (q.2.1 b).2.1) ∧ (q.2.1 j).2.2.2 = false ∧ parseFieldDescriptor (q.2.1 j).2.2.1 = some ty
section XF
variable {C : xCx} {cc : ByteArray} {own : String} {nL ht : Nat} {γ : xG} {S : xS} {rv : Option Value} {hr : xH} {l : Launch} {ret : Option FieldType} {h : xH} {pc pc' : Nat} {L : List (Option Value)} {st : List Value} {ρ : Type} {K : Option ρ} {R : ρ}
theorem xB_get (hF : xF C cc own nL ht γ S rv hr l ret) {idx ci j w : Nat} {f : xSh} {fs : List Value} {v : Value} (hd : xI cc pc (.getfield idx) 3 pc') (hl : xFL own idx ci j) (hS : S[w]? = some f) (hf : f γ (h w) = .inr (ci, fs)) (hv : fs[j]? = some v) (k : xB C h pc' L (v :: st)) : xB C h pc L (.ref (γ.2.2.2 w) :: st) := by
  obtain ⟨⟨p, l', e, s, m, args, below, meth, c⟩, A, nL', ht', γ', S', rv', hr'⟩ := C
  obtain ⟨hx, hb, hml, rfl, rfl, rfl, rfl, rfl, rfl, rfl, hown, hts, hK, hSt, hA, hrt, hlk⟩ := hF
  obtain ⟨hd, rfl⟩ := hd
  obtain ⟨q, hc, hin, hj, hlk2⟩ := hl
  exact fun H locs ls h1 h2 h3 h4 => va_get (C := q.1) (T := q.2.1) (N := q.2.2) hx hb hts hin hown hK h1 w (by rw [xws_get hS, hf]) hc j (Nat.le_of_ble_eq_true hj) (hts _ hlk2) (fun _ h9 => h9) hv hd (k H locs ls h1 h2 h3 h4)
theorem xB_put (hF : xF C cc own nL ht γ S rv hr l ret) {idx ci j w : Nat} {f : xSh} {fs : List Value} {ty : FieldType} {x : Int32} (hd : xI cc pc (.putfield idx) 3 pc') (hl : xFP own idx ci j ty) (hS : S[w]? = some f) (hf : f γ (h w) = .inr (ci, fs)) (hn : narrow ty (.int x) = .int x) (hfit : fits ty (.int x) = true) (hj2 : Nat.ble (j + 1) fs.length = true) (hu : .inr (ci, fs.set j (.int x)) = f γ (upd (h w) j x)) (k : xB C (xst h w j x) pc' L st) : xB C h pc L (.int x :: .ref (γ.2.2.2 w) :: st) := by
  obtain ⟨⟨p, l', e, s, m, args, below, meth, c⟩, A, nL', ht', γ', S', rv', hr'⟩ := C
  obtain ⟨hx, hb, hml, rfl, rfl, rfl, rfl, rfl, rfl, rfl, hown, hts, hK, hSt, hA, hrt, hlk⟩ := hF
  obtain ⟨hd, rfl⟩ := hd
  obtain ⟨q, ty0, hc, hin, hj, hlk2, hty, hnm, hfin, hpd⟩ := hl
  exact fun H locs ls h1 h2 h3 h4 => va_put (C := q.1) (T := q.2.1) (N := q.2.2) hx hb hts hin ty0 hty hnm hown hK h1 h2 h3 w (by rw [xws_get hS, hf]) hc j (Nat.le_of_ble_eq_true hj) (hts _ hlk2) (fun _ h9 => h9) hfin hpd hn hfit (Nat.le_of_ble_eq_true hj2) hd (fun H1 locs1 g1 g2 g3 => k H1 locs1 ls (by rw [hu, xws_set hS] at g1; exact g1) (by rw [hu, xws_set hS] at g2; exact g2) g3 h4)
theorem xB_iald (hF : xF C cc own nL ht γ S rv hr l ret) {w n : Nat} {i : Int32} (hd : xI cc pc .iaload 1 pc') (hS : S[w]? = some (shA n)) (e : gd i n K = some R) (k : K = some R → xB C h pc' L (.int (h w i.toNatClampNeg) :: st)) : xB C h pc L (.int i :: .ref (γ.2.2.2 w) :: st) := by
  obtain ⟨hi, e⟩ := gd_of e
  have k := k e
  obtain ⟨⟨p, l', e, s, m, args, below, meth, c⟩, A, nL', ht', γ', S', rv', hr'⟩ := C
  obtain ⟨hx, hb, hml, rfl, rfl, rfl, rfl, rfl, rfl, rfl, hown, hts, hK, hSt, hA, hrt, hlk⟩ := hF
  obtain ⟨hd, rfl⟩ := hd
  exact fun H locs ls h1 h2 h3 h4 => va_iald hx hb hK h1 w 0 (xws_get hS) rfl hi hd (k H locs ls h1 h2 h3 h4)
theorem xB_iast (hF : xF C cc own nL ht γ S rv hr l ret) {w n : Nat} {i x : Int32} (hd : xI cc pc .iastore 1 pc') (hS : S[w]? = some (shA n)) (e : gd i n K = some R) (k : K = some R → xB C (xst h w i.toNatClampNeg x) pc' L st) : xB C h pc L (.int x :: .int i :: .ref (γ.2.2.2 w) :: st) := by
  obtain ⟨hi, e⟩ := gd_of e
  have k := k e
  obtain ⟨⟨p, l', e, s, m, args, below, meth, c⟩, A, nL', ht', γ', S', rv', hr'⟩ := C
  obtain ⟨hx, hb, hml, rfl, rfl, rfl, rfl, rfl, rfl, rfl, hown, hts, hK, hSt, hA, hrt, hlk⟩ := hF
  obtain ⟨hd, rfl⟩ := hd
  exact fun H locs ls h1 h2 h3 h4 => va_iast hx hb hK h1 h2 h3 w 0 (xws_get hS) rfl hi hd (fun H1 locs1 g1 g2 g3 => k H1 locs1 ls (by rw [show xst h w i.toNatClampNeg x = xpt h w (upd (h w) i.toNatClampNeg x) from rfl, ← xws_set (γ := γ') (h := h) (f := shA n) hS]; exact g1) (by rw [show xst h w i.toNatClampNeg x = xpt h w (upd (h w) i.toNatClampNeg x) from rfl, ← xws_set (γ := γ') (h := h) (f := shA n) hS]; exact g2) g3 h4)
theorem xB_aald (hF : xF C cc own nL ht γ S rv hr l ret) {w n t0 : Nat} {g : Nat → Nat} {ty : FieldType} {i : Int32} (hd : xI cc pc .aaload 1 pc') (hS : S[w]? = some (shQ t0 n g)) (hty : (xTy γ)[t0]? = some (γ.2.1 t0, ty)) (hrk : refKind ty = true) (e : gd i n K = some R) (k : vp_in i n → K = some R → xB C h pc' L (.ref (γ.2.2.2 (g i.toNatClampNeg)) :: st)) : xB C h pc L (.int i :: .ref (γ.2.2.2 w) :: st) := by
  obtain ⟨hi, e⟩ := gd_of e
  have k := k hi e
  obtain ⟨⟨p, l', e, s, m, args, below, meth, c⟩, A, nL', ht', γ', S', rv', hr'⟩ := C
  obtain ⟨hx, hb, hml, rfl, rfl, rfl, rfl, rfl, rfl, rfl, hown, hts, hK, hSt, hA, hrt, hlk⟩ := hF
  obtain ⟨hd, rfl⟩ := hd
  have hlt : i.toNatClampNeg < n := Nat.not_le.mp fun q => hi (Or.inr q)
  exact fun H locs ls h1 h2 h3 h4 => W.aald (v := .ref (γ'.2.2.2 (g i.toNatClampNeg))) (ty := ty) hx hb (h1 w _ (xws_get hS)) ((hK.2 t0 _ hty).1 n (fun j => .ref (γ'.2.2.2 (g j)))) hrk (fun q => by cases q) (by show ¬ (i < 0 ∨ (arrV _ _ _).slots.size ≤ _); rw [arrV_size]; exact hi) (by show (arrV _ _ _).slots[_]? = _; rw [arrV_read _ _ hlt]; rfl) rfl rfl hd (k H locs ls h1 h2 h3 h4)
theorem xB_alen (hF : xF C cc own nL ht γ S rv hr l ret) {w n : Nat} {v : Int32} (hd : xI cc pc .arraylength 1 pc') (hS : S[w]? = some (shA n)) (hv : Int32.ofNat n = v) (k : xB C h pc' L (.int v :: st)) : xB C h pc L (.ref (γ.2.2.2 w) :: st) := by
  obtain ⟨⟨p, l', e, s, m, args, below, meth, c⟩, A, nL', ht', γ', S', rv', hr'⟩ := C
  obtain ⟨hx, hb, hml, rfl, rfl, rfl, rfl, rfl, rfl, rfl, hown, hts, hK, hSt, hA, hrt, hlk⟩ := hF
  obtain ⟨hd, rfl⟩ := hd
  exact fun H locs ls h1 h2 h3 h4 => va_alen hx hb hK h1 w 0 (xws_get hS) rfl hv hd (k H locs ls h1 h2 h3 h4)
theorem xB_copy (hF : xF C cc own nL ht γ S rv hr l ret) {idx w0 w1 n0 n1 : Nat} {sp dp n : Int32} (hd : xI cc pc (.invokestatic idx) 3 pc') (hlink : Cond.methodLink own idx arraycopyName ∈ xWS) (hw : Cond.native arraycopyName ∈ xWS ∧ Cond.static arraycopyName ∈ xWS ∧ Cond.initialized "java/lang/System" ∈ xWS) (hS0 : S[w0]? = some (shA n0)) (hS1 : S[w1]? = some (shA n1)) (hht : Nat.ble 1 ht = true) (hrs : Nat.ble ((st.map fun v => v.category).sum + (nativeFrameWords "java/lang/System" "arraycopy" 5 + 11)) 48 = true) (e : gc sp dp n n0 n1 K = some R) (k : K = some R → xB C (xpt h w1 (va_cpy (h w0) (h w1) sp.toNatClampNeg dp.toNatClampNeg n.toNatClampNeg)) pc' L st) : xB C h pc L (.int n :: .int dp :: .ref (γ.2.2.2 w1) :: .int sp :: .ref (γ.2.2.2 w0) :: st) := by
  obtain ⟨⟨g1, g2, g3, g4, g5⟩, e⟩ := gc_of e
  have k := k e
  obtain ⟨⟨p, l', e, s, m, args, below, meth, c⟩, A, nL', ht', γ', S', rv', hr'⟩ := C
  obtain ⟨hx, hb, hml, rfl, rfl, rfl, rfl, rfl, rfl, rfl, hown, hts, hK, hSt, hA, hrt, hlk⟩ := hF
  obtain ⟨hd, rfl⟩ := hd
  have hht := Nat.le_of_ble_eq_true hht
  have hrs := Nat.le_of_ble_eq_true hrs
  exact fun H locs ls h1 h2 h3 h4 => va_copyi hx hb (hml.trans h4.1.symm) hown (hts _ hlink) (hts _ hw.1) (hts _ hw.2.1) (hts _ hw.2.2) hK h1 h2 h3 w0 w1 0 0 (xws_get hS0) (xws_get hS1) rfl rfl rfl g1 g2 g3 g4 g5 (fun _ _ => rfl) hht (by show _ ≤ 48 * ht'; omega) hd (fun H1 locs1 q1 q2 q3 => k H1 locs1 ls (by rw [← xws_set (γ := γ') (h := h) (f := shA n1) hS1]; exact q1) (by rw [← xws_set (γ := γ') (h := h) (f := shA n1) hS1]; exact q2) q3 h4)
theorem xB_mmax (hF : xF C cc own nL ht γ S rv hr l ret) {idx : Nat} {x y : Int32} (hd : xI cc pc (.invokestatic idx) 3 pc') (hlink : Cond.methodLink own idx Lib.Math.max.name ∈ xWS) (hw : Cond.static Lib.Math.max.name ∈ xWS ∧ Cond.initialized "java/lang/Math" ∈ xWS ∧ Cond.code Lib.Math.max.name Lib.Math.max.code 2 (some .int) ∈ xWS) (hht : Nat.ble 1 ht = true) (hrs : Nat.ble ((st.map fun v => v.category).sum + 13) 48 = true) (k : xB C h pc' L (.int (if x < y then y else x) :: st)) : xB C h pc L (.int y :: .int x :: st) := by
  obtain ⟨⟨p, l', e, s, m, args, below, meth, c⟩, A, nL', ht', γ', S', rv', hr'⟩ := C
  obtain ⟨hx, hb, hml, rfl, rfl, rfl, rfl, rfl, rfl, rfl, hown, hts, hK, hSt, hA, hrt, hlk⟩ := hF
  obtain ⟨hd, rfl⟩ := hd
  have hht := Nat.le_of_ble_eq_true hht
  have hrs := Nat.le_of_ble_eq_true hrs
  exact fun H locs ls h1 h2 h3 h4 => va_mmax hx hb (hml.trans h4.1.symm) hown (hts _ hlink) (hts _ hw.1) (hts _ hw.2.1) (hts _ hw.2.2) hht (by show _ ≤ 48 * ht'; omega) (Nat.le_refl _) (Nat.le_refl _) hd (k H locs ls h1 h2 h3 h4)
theorem xB_mmin (hF : xF C cc own nL ht γ S rv hr l ret) {idx : Nat} {x y : Int32} (hd : xI cc pc (.invokestatic idx) 3 pc') (hlink : Cond.methodLink own idx Lib.Math.min.name ∈ xWS) (hw : Cond.static Lib.Math.min.name ∈ xWS ∧ Cond.initialized "java/lang/Math" ∈ xWS ∧ Cond.code Lib.Math.min.name Lib.Math.min.code 2 (some .int) ∈ xWS) (hht : Nat.ble 1 ht = true) (hrs : Nat.ble ((st.map fun v => v.category).sum + 13) 48 = true) (k : xB C h pc' L (.int (if y < x then y else x) :: st)) : xB C h pc L (.int y :: .int x :: st) := by
  obtain ⟨⟨p, l', e, s, m, args, below, meth, c⟩, A, nL', ht', γ', S', rv', hr'⟩ := C
  obtain ⟨hx, hb, hml, rfl, rfl, rfl, rfl, rfl, rfl, rfl, hown, hts, hK, hSt, hA, hrt, hlk⟩ := hF
  obtain ⟨hd, rfl⟩ := hd
  have hht := Nat.le_of_ble_eq_true hht
  have hrs := Nat.le_of_ble_eq_true hrs
  exact fun H locs ls h1 h2 h3 h4 => va_mmin hx hb (hml.trans h4.1.symm) hown (hts _ hlink) (hts _ hw.1) (hts _ hw.2.1) (hts _ hw.2.2) hht (by show _ ≤ 48 * ht'; omega) (Nat.le_refl _) (Nat.le_refl _) hd (k H locs ls h1 h2 h3 h4)
theorem xB_mabs (hF : xF C cc own nL ht γ S rv hr l ret) {idx : Nat} {x : Int32} (hd : xI cc pc (.invokestatic idx) 3 pc') (hlink : Cond.methodLink own idx Lib.Math.abs.name ∈ xWS) (hw : Cond.static Lib.Math.abs.name ∈ xWS ∧ Cond.initialized "java/lang/Math" ∈ xWS ∧ Cond.code Lib.Math.abs.name Lib.Math.abs.code 1 (some .int) ∈ xWS) (hht : Nat.ble 1 ht = true) (hrs : Nat.ble ((st.map fun v => v.category).sum + 13) 48 = true) (k : xB C h pc' L (.int (if 0 ≤ x then x else 0 - x) :: st)) : xB C h pc L (.int x :: st) := by
  obtain ⟨⟨p, l', e, s, m, args, below, meth, c⟩, A, nL', ht', γ', S', rv', hr'⟩ := C
  obtain ⟨hx, hb, hml, rfl, rfl, rfl, rfl, rfl, rfl, rfl, hown, hts, hK, hSt, hA, hrt, hlk⟩ := hF
  obtain ⟨hd, rfl⟩ := hd
  have hht := Nat.le_of_ble_eq_true hht
  have hrs := Nat.le_of_ble_eq_true hrs
  exact fun H locs ls h1 h2 h3 h4 => va_mabs hx hb (hml.trans h4.1.symm) hown (hts _ hlink) (hts _ hw.1) (hts _ hw.2.1) (hts _ hw.2.2) hht (by show _ ≤ 48 * ht'; omega) (Nat.le_refl _) (Nat.le_refl _) hd (k H locs ls h1 h2 h3 h4)
theorem xB_ireturn {r : Int32} (hF : xF C cc own nL ht γ S (some (.int r)) hr l (some .int)) {x : Int32} (hd : xI cc pc .ireturn 1 pc') (e : (some (x, h) : Option (Int32 × xH)) = some (r, hr)) : xB C h pc L [.int x] := by
  cases e
  obtain ⟨⟨p, l', e, s, m, args, below, meth, c⟩, A, nL', ht', γ', S', rv', hr'⟩ := C
  obtain ⟨hx, hb, hml, rfl, rfl, rfl, rfl, rfl, rfl, rfl, hown, hts, hK, hSt, hA, hrt, hlk⟩ := hF
  obtain ⟨hd, rfl⟩ := hd
  exact fun H locs ls h1 h2 h3 h4 => W.iret hx hb hrt (fun t ht hW => ⟨rfl, by rw [ht]; exact h1, h2, h3.F ht⟩) h3.2.2 hd hlk
theorem xB_zreturn {r : Int32} (hF : xF C cc own nL ht γ S (some (.int r)) hr l (some .boolean)) {x : Int32} (hd : xI cc pc .ireturn 1 pc') (hn : narrow .boolean (.int x) = .int x) (e : (some (x, h) : Option (Int32 × xH)) = some (r, hr)) : xB C h pc L [.int x] := by
  cases e
  obtain ⟨⟨p, l', e, s, m, args, below, meth, c⟩, A, nL', ht', γ', S', rv', hr'⟩ := C
  obtain ⟨hx, hb, hml, rfl, rfl, rfl, rfl, rfl, rfl, rfl, hown, hts, hK, hSt, hA, hrt, hlk⟩ := hF
  obtain ⟨hd, rfl⟩ := hd
  exact fun H locs ls h1 h2 h3 h4 => W.zret hx hb hrt hn (fun t ht hW => ⟨rfl, by rw [ht]; exact h1, h2, h3.F ht⟩) h3.2.2 hd hlk
theorem xB_breturn {r : Int32} (hF : xF C cc own nL ht γ S (some (.int r)) hr l (some .boolean)) {x : Int32} (hd : xI cc pc .ireturn 1 pc') (e : gb x (some (x, h) : Option (Int32 × xH)) = some (r, hr)) : xB C h pc L [.int x] := by
  obtain ⟨hb, e⟩ := gb_of e
  refine xB_zreturn hF hd ?_ e
  rcases hb with rfl | rfl <;> rfl
theorem xB_vreturn {r : Int32} (hF : xF C cc own nL ht γ S none hr l none) (hd : xI cc pc .return_ 1 pc') (e : (some ((0 : Int32), h) : Option (Int32 × xH)) = some (r, hr)) : xB C h pc L [] := by
  cases e
  obtain ⟨⟨p, l', e, s, m, args, below, meth, c⟩, A, nL', ht', γ', S', rv', hr'⟩ := C
  obtain ⟨hx, hb, hml, rfl, rfl, rfl, rfl, rfl, rfl, rfl, hown, hts, hK, hSt, hA, hrt, hlk⟩ := hF
  obtain ⟨hd, rfl⟩ := hd
  exact fun H locs ls h1 h2 h3 h4 => W.vret hx hb hrt (fun t ht hW => ⟨rfl, by rw [ht]; exact h1, h2, h3.F ht⟩) h3.2.2 hd hlk
end XF
/-! calls -/
theorem xrun {p : Program} {l : Launch} {e : Env} {R : Room} {s : State} {m : MethodId} {args : Array Value} {below : List Frame} {meth : Method} {c : Code} {H : Heap} {locs : List Loc} {Q : State → Prop} {cells slots : Nat} {γ : xG} {S : xS} {h h1 : xH} {rv1 : Option Value} {A : Nat → Prop} {pc : Nat} {ls : Array Slot} {st0 rest : List Value} {a : Array Value}
    (hr : va_Run p l e R s m args below meth c H locs cells slots 0 0 (F0 m pc ls st0) rest (xQ γ S rv1 h1 (va_A (xws γ S h) H.size) a) (va_A (xws γ S h) H.size)) (hD : va_D A (xws γ S h)) (hA : ∀ q, s.heap.size ≤ q → A q) (hS : va_S A s.heap H locs)
    (kk : ∀ (H1 : Heap) (locs1 : List Loc), va_P γ.1 vwCl (xws γ S h1) H1 → va_D A (xws γ S h1) → va_S A s.heap H1 locs1 → W p l e R s m args below meth c H1 locs1 cells slots Q (F0 m (pc + 3) ls (rv1.toList ++ rest))) : W p l e R s m args below meth c H locs cells slots Q (F0 m pc ls st0) := by
  intro T hT X
  obtain ⟨v, st₀, t, T', L, h0, X', hL, e1, e2, ⟨hv, hP1, hD1, hz, hk⟩, st⟩ := hr T hT X
  cases hv
  rw [h0] at hz hk
  have hF : ∀ q, va_A (xws γ S h) H.size q → A q := by
    intro q hq
    rcases hq with ⟨k, e, hk⟩ | hq
    · exact hD.2 k _ hk
    · exact hA q (Nat.le_trans hS.1 hq)
  obtain ⟨t2, a1, b1⟩ := kk T'.heap (locs ++ L) (by rw [e1]; exact hP1) (hD1.weaken (fun _ q _ hq => hF q.1 hq)) ⟨Nat.le_trans hS.1 (by rw [e1]; exact hz), fun q g1 g2 => by rw [e1, hk q (Nat.lt_of_lt_of_le g1 hS.1) (fun z => g2 (hF q z))]; exact hS.2.1 q g1 g2, fun q hq => by
      rcases List.mem_append.mp hq with g | g
      · exact hS.2.2 q g
      · exact hF _ (hL q g)⟩ T' rfl X'
  exact ⟨t2, st t2 a1, b1⟩
def xCS (own : String) (idx : Nat) (y : MethodName) (cc : ByteArray) (nL : Nat) (ret : Option FieldType) (n : Nat) : Prop := Cond.methodLink own idx y ∈ xWS ∧ Cond.static y ∈ xWS ∧ Cond.initialized y.cls ∈ xWS ∧ Cond.code y cc nL ret ∈ xWS ∧ Nat.ble nL 29 = true ∧ y.cls ≠ "java/lang/invoke/MethodHandle" ∧ y.cls ≠ "java/lang/invoke/VarHandle" ∧ (parseMethodDescriptor y.desc).map (fun d => d.parameters.length) = some n
def xCV (own : String) (idx : Nat) (y : MethodName) (cc : ByteArray) (nL : Nat) (ret : Option FieldType) (n ci : Nat) : Prop := Cond.methodLink own idx y ∈ xWS ∧ Cond.instanceMethod y ∈ xWS ∧ Cond.selects y.cls y y ∈ xWS ∧ Cond.initialized y.cls ∈ xWS ∧ Cond.code y cc nL ret ∈ xWS ∧ Nat.ble nL 29 = true ∧ y.cls ≠ "java/lang/invoke/MethodHandle" ∧ y.cls ≠ "java/lang/invoke/VarHandle" ∧ (parseMethodDescriptor y.desc).map (fun d => d.parameters.length) = some n ∧ ∃ q : vw_C, vwCl[ci]? = some q ∧ q.1 = y.cls
def xCN (own : String) (idx : Nat) (y : MethodName) (host : String) (cc : ByteArray) (nL : Nat) (ret : Option FieldType) (n : Nat) : Prop := Cond.methodLinkNest own idx y host ∈ xNest ∧ Cond.static y ∈ xWS ∧ Cond.initialized y.cls ∈ xWS ∧ Cond.code y cc nL ret ∈ xWS ∧ Nat.ble nL 29 = true ∧ y.cls ≠ "java/lang/invoke/MethodHandle" ∧ y.cls ≠ "java/lang/invoke/VarHandle" ∧ (parseMethodDescriptor y.desc).map (fun d => d.parameters.length) = some n
section XC
variable {C : xCx} {cc : ByteArray} {own : String} {nL ht : Nat} {γ : xG} {S : xS} {rv : Option Value} {hr : xH} {l : Launch} {ret : Option FieldType} {h h1 : xH} {pc pc' : Nat} {L : List (Option Value)} {st rest : List Value} {y : MethodName} {cc1 : ByteArray} {nL1 ht1 n idx : Nat} {ret1 : Option FieldType} {As : List Value} {rv1 : Option Value}
theorem xPre {s U : State} {A : Nat → Prop} {H : Heap} {locs : List Loc} (hK : va_K γ.1 vwCl (xTy γ) s) (hSt : xSt γ.2.2.1 A s s.heap) (hA : ∀ q, s.heap.size ≤ q → A q) (hP : va_P γ.1 vwCl (xws γ S h) H) (hD : va_D A (xws γ S h)) (hS : va_S A s.heap H locs) (hU : U.heap = H) (hW : s.WarmedH U.vm) : xP γ S As h H.size As.toArray U := by
  have hF : ∀ q, va_A (xws γ S h) H.size q → A q := by
    intro q hq
    rcases hq with ⟨k, e, hk⟩ | hq
    · exact hD.2 k _ hk
    · exact hA q (Nat.le_trans hS.1 hq)
  exact ⟨rfl, by rw [hU], by rw [hU]; exact hP, va_K.moved hW.alike hK, hD.weaken (fun _ _ _ _ => trivial), by rw [hU]; exact xSt.go hW hS.2.1 hF hSt⟩
theorem xB_callS (hF : xF C cc own nL ht γ S rv hr l ret) (hd : xI cc pc (.invokestatic idx) 3 pc') (hM : xCT l γ S y cc1 nL1 ret1 ht1 As h rv1 h1) (hw : xCS own idx y cc1 nL1 ret1 n) (hh : Nat.ble (ht1 + 1) ht = true) (hn : As.length = n) (hst : st = As.reverse ++ rest) (hsum : Nat.ble (rest.map fun v => v.category).sum 8 = true) (k : xB C h1 pc' L (rv1.toList ++ rest)) : xB C h pc L st := by
  obtain ⟨⟨p, l', e, s, m, args, below, meth, c⟩, A, nL', ht', γ', S', rv', hr'⟩ := C
  obtain ⟨hx, hb, hml, rfl, rfl, rfl, rfl, rfl, rfl, rfl, hown, hts, hK, hSt, hA, hrt, hlk⟩ := hF
  obtain ⟨hd, rfl⟩ := hd
  obtain ⟨w1, w2, w3, w4, w5, w6, w7, w8⟩ := hw
  have hh := Nat.le_of_ble_eq_true hh
  have w5 := Nat.le_of_ble_eq_true w5
  intro H locs ls g1 g2 g3 g4
  refine xrun (va_runS (As := As) (rest := rest) (n := n) (Ts := xWS) ⟨hx, hb, hml, hown, hts⟩ (hM H.size) (va_cwS n hts (xGood (fun w hw => ?_)) rfl rfl rfl ⟨w6, w7, w8⟩ ⟨hh, ?_⟩) ⟨xP_blind, fun U hU hW => xPre hK hSt hA g1 g2 g3 hU hW⟩ rfl hn (g4.1) hst (by show 2 * 0 + _ ≤ 8; have := Nat.le_of_ble_eq_true hsum; omega) hd ⟨Nat.le_refl _, Nat.le_refl _⟩) g2 hA g3 (fun H1 locs1 q1 q2 q3 => k H1 locs1 ls q1 q2 q3 g4)
  · simp only [va_wsS, List.mem_append, List.mem_cons, List.not_mem_nil, or_false] at hw
    rcases hw with (rfl | rfl | rfl) | rfl | hw
    · exact w1
    · exact w2
    · exact w3
    · exact w4
    · exact hw
  · show 8 + (nL1 + 11) + 48 * ht1 ≤ 48 * ht'
    omega
theorem xB_callN (hF : xF C cc own nL ht γ S rv hr l ret) {host : String} (hd : xI cc pc (.invokestatic idx) 3 pc') (hM : xCT l γ S y cc1 nL1 ret1 ht1 As h rv1 h1) (hw : xCN own idx y host cc1 nL1 ret1 n) (hh : Nat.ble (ht1 + 1) ht = true) (hn : As.length = n) (hst : st = As.reverse ++ rest) (hsum : Nat.ble (rest.map fun v => v.category).sum 8 = true) (k : xB C h1 pc' L (rv1.toList ++ rest)) : xB C h pc L st := by
  obtain ⟨⟨p, l', e, s, m, args, below, meth, c⟩, A, nL', ht', γ', S', rv', hr'⟩ := C
  obtain ⟨hx, hb, hml, rfl, rfl, rfl, rfl, rfl, rfl, rfl, hown, hts, hK, hSt, hA, hrt, hlk⟩ := hF
  obtain ⟨hd, rfl⟩ := hd
  obtain ⟨w1, w2, w3, w4, w5, w6, w7, w8⟩ := hw
  have hh := Nat.le_of_ble_eq_true hh
  have w5 := Nat.le_of_ble_eq_true w5
  intro H locs ls g1 g2 g3 g4
  refine xrun (va_runSN (As := As) (rest := rest) (n := n) (Ts := xWS) (host := host) ⟨hx, hb, hml, hown, hts⟩ (hM H.size) ⟨va_cnB n hts (xGood (fun w hw => ?_)) rfl rfl rfl (hSt.1 _ w1) (hts _ w3) ⟨w6, w7, w8⟩ ⟨hh, ?_⟩, hts _ w2, trivial⟩ ⟨xP_blind, fun U hU hW => xPre hK hSt hA g1 g2 g3 hU hW⟩ rfl hn (g4.1) hst (by show 2 * 0 + _ ≤ 8; have := Nat.le_of_ble_eq_true hsum; omega) hd ⟨Nat.le_refl _, Nat.le_refl _⟩) g2 hA g3 (fun H1 locs1 q1 q2 q3 => k H1 locs1 ls q1 q2 q3 g4)
  · rcases List.mem_cons.mp hw with rfl | hw
    · exact w4
    · exact hw
  · show 8 + (nL1 + 11) + 48 * ht1 ≤ 48 * ht'
    omega
theorem xB_callV (hF : xF C cc own nL ht γ S rv hr l ret) {w ci : Nat} {f : xSh} {fs : List Value} (hd : xI cc pc (.invokevirtual idx) 3 pc') (hM : xCT l γ S y cc1 nL1 ret1 ht1 (.ref (γ.2.2.2 w) :: As) h rv1 h1) (hw : xCV own idx y cc1 nL1 ret1 n ci) (hS : S[w]? = some f) (hf : f γ (h w) = .inr (ci, fs)) (hh : Nat.ble (ht1 + 1) ht = true) (hn : As.length = n) (hst : st = As.reverse ++ .ref (γ.2.2.2 w) :: rest) (hsum : Nat.ble (rest.map fun v => v.category).sum 8 = true) (k : xB C h1 pc' L (rv1.toList ++ rest)) : xB C h pc L st := by
  obtain ⟨⟨p, l', e, s, m, args, below, meth, c⟩, A, nL', ht', γ', S', rv', hr'⟩ := C
  obtain ⟨hx, hb, hml, rfl, rfl, rfl, rfl, rfl, rfl, rfl, hown, hts, hK, hSt, hA, hrt, hlk⟩ := hF
  obtain ⟨hd, rfl⟩ := hd
  obtain ⟨w1, w2, w3, w4, w5, w6, w7, w8, w9, q, hq, hq1⟩ := hw
  have hh := Nat.le_of_ble_eq_true hh
  have w6 := Nat.le_of_ble_eq_true w6
  intro H locs ls g1 g2 g3 g4
  refine xrun (va_runV (As := As) (rest := rest) (n := n) (Ts := xWS) (C := y.cls) ⟨hx, hb, hml, hown, hts⟩ (hM H.size) (cwV n hts (xGood (fun w hw => ?_)) rfl rfl rfl ⟨rfl, w7, w8, w9⟩ ⟨hh, ?_⟩) ⟨xP_blind, ?_, fun U hU hW => xPre (As := .ref _ :: As) hK hSt hA g1 g2 g3 hU hW⟩ rfl hn (g4.1) hst (by show 2 * 0 + _ ≤ 8; have := Nat.le_of_ble_eq_true hsum; omega) hd ⟨Nat.le_refl _, Nat.le_refl _⟩) g2 hA g3 (fun H1 locs1 q1 q2 q3 => k H1 locs1 ls q1 q2 q3 g4)
  · simp only [wsV, List.mem_append, List.mem_cons, List.not_mem_nil, or_false] at hw
    rcases hw with (rfl | rfl | rfl | rfl) | rfl | hw
    · exact w1
    · exact w2
    · exact w3
    · exact w4
    · exact w5
    · exact hw
  · show 8 + (nL1 + 11) + 48 * ht1 ≤ 48 * ht'
    omega
  · obtain ⟨cell, c1, c2, c3⟩ := va_recv hK g1 hq (q0 := w) (fs := fs) (by rw [xws_get hS, hf])
    exact ⟨cell, c1, c2, by rw [← hq1]; exact c3⟩
theorem xB_callSi (hF : xF C cc own nL ht γ S rv hr l ret) {r1 : Int32} (hd : xI cc pc (.invokestatic idx) 3 pc') (hM : xCT l γ S y cc1 nL1 ret1 ht1 (As) h (some (.int r1)) h1) (hw : xCS own idx y cc1 nL1 ret1 n) (hh : Nat.ble (ht1 + 1) ht = true) (hn : As.length = n) (hst : st = As.reverse ++ rest) (hsum : Nat.ble (rest.map fun v => v.category).sum 8 = true) (k : xB C h1 pc' L (.int r1 :: rest)) : xB C h pc L st := xB_callS hF hd hM hw hh hn hst hsum k
theorem xB_callSv (hF : xF C cc own nL ht γ S rv hr l ret) (hd : xI cc pc (.invokestatic idx) 3 pc') (hM : xCT l γ S y cc1 nL1 ret1 ht1 (As) h none h1) (hw : xCS own idx y cc1 nL1 ret1 n) (hh : Nat.ble (ht1 + 1) ht = true) (hn : As.length = n) (hst : st = As.reverse ++ rest) (hsum : Nat.ble (rest.map fun v => v.category).sum 8 = true) (k : xB C h1 pc' L (rest)) : xB C h pc L st := xB_callS hF hd hM hw hh hn hst hsum k
theorem xB_callNi (hF : xF C cc own nL ht γ S rv hr l ret) {host : String} {r1 : Int32} (hd : xI cc pc (.invokestatic idx) 3 pc') (hM : xCT l γ S y cc1 nL1 ret1 ht1 (As) h (some (.int r1)) h1) (hw : xCN own idx y host cc1 nL1 ret1 n) (hh : Nat.ble (ht1 + 1) ht = true) (hn : As.length = n) (hst : st = As.reverse ++ rest) (hsum : Nat.ble (rest.map fun v => v.category).sum 8 = true) (k : xB C h1 pc' L (.int r1 :: rest)) : xB C h pc L st := xB_callN hF hd hM hw hh hn hst hsum k
theorem xB_callNv (hF : xF C cc own nL ht γ S rv hr l ret) {host : String} (hd : xI cc pc (.invokestatic idx) 3 pc') (hM : xCT l γ S y cc1 nL1 ret1 ht1 (As) h none h1) (hw : xCN own idx y host cc1 nL1 ret1 n) (hh : Nat.ble (ht1 + 1) ht = true) (hn : As.length = n) (hst : st = As.reverse ++ rest) (hsum : Nat.ble (rest.map fun v => v.category).sum 8 = true) (k : xB C h1 pc' L (rest)) : xB C h pc L st := xB_callN hF hd hM hw hh hn hst hsum k
theorem xB_callVi (hF : xF C cc own nL ht γ S rv hr l ret) {w ci : Nat} {f : xSh} {fs : List Value} {r1 : Int32} (hd : xI cc pc (.invokevirtual idx) 3 pc') (hM : xCT l γ S y cc1 nL1 ret1 ht1 (.ref (γ.2.2.2 w) :: As) h (some (.int r1)) h1) (hw : xCV own idx y cc1 nL1 ret1 n ci) (hS : S[w]? = some f) (hf : f γ (h w) = .inr (ci, fs)) (hh : Nat.ble (ht1 + 1) ht = true) (hn : As.length = n) (hst : st = As.reverse ++ .ref (γ.2.2.2 w) :: rest) (hsum : Nat.ble (rest.map fun v => v.category).sum 8 = true) (k : xB C h1 pc' L (.int r1 :: rest)) : xB C h pc L st := xB_callV hF hd hM hw hS hf hh hn hst hsum k
theorem xB_callVv (hF : xF C cc own nL ht γ S rv hr l ret) {w ci : Nat} {f : xSh} {fs : List Value} (hd : xI cc pc (.invokevirtual idx) 3 pc') (hM : xCT l γ S y cc1 nL1 ret1 ht1 (.ref (γ.2.2.2 w) :: As) h none h1) (hw : xCV own idx y cc1 nL1 ret1 n ci) (hS : S[w]? = some f) (hf : f γ (h w) = .inr (ci, fs)) (hh : Nat.ble (ht1 + 1) ht = true) (hn : As.length = n) (hst : st = As.reverse ++ .ref (γ.2.2.2 w) :: rest) (hsum : Nat.ble (rest.map fun v => v.category).sum 8 = true) (k : xB C h1 pc' L (rest)) : xB C h pc L st := xB_callV hF hd hM hw hS hf hh hn hst hsum k
end XC
