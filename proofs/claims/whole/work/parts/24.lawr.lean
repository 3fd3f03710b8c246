/-! THE CLAIM OUT OF ONE WALK OF THE LAW'S BODY. Your part is whole_start (and what it stands on); all else here is the same for every law, but numbers. -/
def R_law : String := "DayMarketLaw"
def lw_P (b : Addr) (xs : List Int32) (args : Array Value) (s : State) : Prop := args = #[.ref b] ∧ s.IntsAt b xs ∧ xs.length ≤ 384 ∧ (Jvm.Cond.and given_1 narrow_1).before args s = true
def lw_Q (_ : Array Value) (s : State) (o : Outcome) (t : State) : Prop := o = .returned (some (.int 1)) ∧ Framed s o t [] 600000 7302250
def lw_Z (below : List Frame) (a : Array Value) (s : State) : State → Prop := fun t => ∃ o, t.status = .running ∧ Ended t below o ∧ lw_Q a s o t
/-- the law's own end, with 1 on the stack, nothing written that was there before, its room as the claim has it -/
theorem lw_ret {p : Program} {l : Launch} {e : Env} {s : State} {m : MethodId} {below : List Frame} {meth : Method} {c : Code} {b : Nat} (hx : p.tables.exec = Jvm.exec) (hb : c.code = code) (hr : meth.sig.returnType = ret) (hlocks : meth.locks = false) {pc : Nat} {H : Heap} {ls : Array Slot} (hdg : decode code pc = .ok (.ireturn, 1)) : W p l e room_1 s m #[Value.ref b] below meth c H [] 600000 7302250 (lw_Z below #[Value.ref b] s) (F0 m pc ls [.int 1]) := by
  intro T hT X
  obtain ⟨fs, hret, hrun, hended, hW, hframe⟩ := X.leave (v := some (.int 1)) (hlocks := hlocks) (fun h => by rw [hr] at h; cases h)
  have hmeth' : T.vm.method? m = some meth := X.method'
  refine ⟨T.setFrames fs, ?_, .returned (some (.int 1)), hrun, hended, rfl, ⟨_, rfl⟩, hW, hframe⟩
  jvm_step X.here [X.here.top, hx, hb, hdg, hmeth', hr, ret, narrow_b1]
  (try refine ⟨rfl, ?_⟩); (try refine ⟨rfl, ?_⟩)
  first | (intro acts; rw [hret _ acts rfl rfl rfl]) | rw [hret _ _ rfl rfl rfl]
  exact Steps.refl _
/-- what holds at the law's entry: the machine, the code, the tables' words (any of lw_tbl by 'hts w (by decide +kernel)'), the script of L ints xs at the cell b, what the Statement gives of the start (any of its parts by flat_of_before) -/
def lw_At (p : Program) (s : State) (m : MethodId) (meth : Method) (c : Code) (b L : Nat) (xs : Nat → Int32) : Prop :=
  p.tables.exec = Jvm.exec ∧ c.code = code ∧ meth.sig.returnType = ret ∧ c.maxLocals = 4 ∧ s.vm.findClass R_law = some m.cls ∧ (∀ w ∈ lw_tbl, w.before #[Value.ref b] s = true) ∧ va_X b L xs s s.heap ∧ b < s.heap.size ∧ meth.locks = false ∧ (Jvm.Cond.and given_1 narrow_1).before #[Value.ref b] s = true
abbrev lCx : Type := Program × Launch × Env × State × MethodId × List Frame × Method × Code × Nat
def lB (C : lCx) (γC γM : xG) (hc hm : xH) (pc : Nat) (L : List (Option Value)) (st : List Value) : Prop := match C with
  | (p, l, e, s, m, below, meth, c, b) => ∀ (H : Heap) (locs : List Loc) (ls : Array Slot), va_P γC.1 vwCl (xws γC xSC hc) H → va_P γM.1 vwCl (xws γM xSM hm) H → va_D (fun q : Nat => s.heap.size ≤ q) (xws γC xSC hc) → va_D (fun q : Nat => s.heap.size ≤ q) (xws γM xSM hm) → va_S (fun q : Nat => s.heap.size ≤ q) s.heap H locs → lv_has ls 4 (xlg 0 L) → W p l e room_1 s m #[Value.ref b] below meth c H locs 105 12434 (lw_Z below #[Value.ref b] s) (F0 m pc ls st)
def lF (C : lCx) (γC γM : xG) (l : Launch) (Ln : Nat) (xs : Nat → Int32) (b : Nat) : Prop := match C with
  | (p, l', _, s, m, _, meth, c, b') => p.tables.exec = Jvm.exec ∧ c.code = code ∧ c.maxLocals = 4 ∧ l' = l ∧ b' = b ∧ s.vm.findClass RL = some m.cls ∧ (∀ w ∈ xWS, w.before #[Value.ref b] s = true) ∧ va_K γC.1 vwCl (xTy γC) s ∧ va_K γM.1 vwCl (xTy γM) s ∧ xSt γC.2.2.1 (fun q : Nat => s.heap.size ≤ q) s s.heap ∧ xSt γM.2.2.1 (fun q : Nat => s.heap.size ≤ q) s s.heap ∧ va_X b Ln xs s s.heap ∧ b < s.heap.size ∧ (∀ i j, i < 85 → j < 20 → γC.2.2.2 i ≠ γM.2.2.2 j) ∧ meth.sig.returnType = ret ∧ meth.locks = false
section XL
variable {C : lCx} {γC γM : xG} {l : Launch} {Ln b : Nat} {xs : Nat → Int32} {hc hm : xH} {pc pc' : Nat} {L : List (Option Value)} {st rest : List Value}
theorem lB_iconst (hF : lF C γC γM l Ln xs b) {n : Int} {v : Int32} (hd : xI code pc (.iconst n) 1 pc') (hv : Int32.ofInt n = v) (k : lB C γC γM hc hm pc' L (.int v :: st)) : lB C γC γM hc hm pc L (st) := by
  obtain ⟨p, l', e, s, m, below, meth, c, b'⟩ := C
  obtain ⟨hx, hb, hml, rfl, rfl, hown, hts, hKC, hKM, hStC, hStM, hX, hbl, hdj, hrt, hlk⟩ := hF
  obtain ⟨hd, rfl⟩ := hd
  exact fun H locs ls h1 h2 h3 h4 h5 h6 => lv_iconst hx hb hd hv (k H locs ls h1 h2 h3 h4 h5 h6)
theorem lB_bipush (hF : lF C γC γM l Ln xs b) {n : Int} {v : Int32} (hd : xI code pc (.bipush n) 2 pc') (hv : (Int8.ofInt n).toInt32 = v) (k : lB C γC γM hc hm pc' L (.int v :: st)) : lB C γC γM hc hm pc L (st) := by
  obtain ⟨p, l', e, s, m, below, meth, c, b'⟩ := C
  obtain ⟨hx, hb, hml, rfl, rfl, hown, hts, hKC, hKM, hStC, hStM, hX, hbl, hdj, hrt, hlk⟩ := hF
  obtain ⟨hd, rfl⟩ := hd
  exact fun H locs ls h1 h2 h3 h4 h5 h6 => lv_bipush hx hb hd hv (k H locs ls h1 h2 h3 h4 h5 h6)
theorem lB_iload_n (hF : lF C γC γM l Ln xs b) {k0 : Fin 4} {x : Int32} (hd : xI code pc (.iload_n k0) 1 pc') (hl : L[(k0 : Nat)]? = some (some (.int x))) (k : lB C γC γM hc hm pc' L (.int x :: st)) : lB C γC γM hc hm pc L (st) := by
  obtain ⟨p, l', e, s, m, below, meth, c, b'⟩ := C
  obtain ⟨hx, hb, hml, rfl, rfl, hown, hts, hKC, hKM, hStC, hStM, hX, hbl, hdj, hrt, hlk⟩ := hF
  obtain ⟨hd, rfl⟩ := hd
  exact fun H locs ls h1 h2 h3 h4 h5 h6 => lv_iload_n hx hb hd rfl (xl_get h6 hl) (k H locs ls h1 h2 h3 h4 h5 h6)
theorem lB_aload_n (hF : lF C γC γM l Ln xs b) {k0 : Fin 4} {x : Nat} (hd : xI code pc (.aload_n k0) 1 pc') (hl : L[(k0 : Nat)]? = some (some (.ref x))) (k : lB C γC γM hc hm pc' L (.ref x :: st)) : lB C γC γM hc hm pc L (st) := by
  obtain ⟨p, l', e, s, m, below, meth, c, b'⟩ := C
  obtain ⟨hx, hb, hml, rfl, rfl, hown, hts, hKC, hKM, hStC, hStM, hX, hbl, hdj, hrt, hlk⟩ := hF
  obtain ⟨hd, rfl⟩ := hd
  exact fun H locs ls h1 h2 h3 h4 h5 h6 => lv_aload_n hx hb hd rfl (xl_get h6 hl) (k H locs ls h1 h2 h3 h4 h5 h6)
theorem lB_iadd (hF : lF C γC γM l Ln xs b) {x y : Int32} (hd : xI code pc .iadd 1 pc')  (k : lB C γC γM hc hm pc' L (.int (x + y) :: st)) : lB C γC γM hc hm pc L (.int y :: .int x :: st) := by
  obtain ⟨p, l', e, s, m, below, meth, c, b'⟩ := C
  obtain ⟨hx, hb, hml, rfl, rfl, hown, hts, hKC, hKM, hStC, hStM, hX, hbl, hdj, hrt, hlk⟩ := hF
  obtain ⟨hd, rfl⟩ := hd
  exact fun H locs ls h1 h2 h3 h4 h5 h6 => lv_iadd hx hb hd (k H locs ls h1 h2 h3 h4 h5 h6)
theorem lB_isub (hF : lF C γC γM l Ln xs b) {x y : Int32} (hd : xI code pc .isub 1 pc')  (k : lB C γC γM hc hm pc' L (.int (x - y) :: st)) : lB C γC γM hc hm pc L (.int y :: .int x :: st) := by
  obtain ⟨p, l', e, s, m, below, meth, c, b'⟩ := C
  obtain ⟨hx, hb, hml, rfl, rfl, hown, hts, hKC, hKM, hStC, hStM, hX, hbl, hdj, hrt, hlk⟩ := hF
  obtain ⟨hd, rfl⟩ := hd
  exact fun H locs ls h1 h2 h3 h4 h5 h6 => lv_isub hx hb hd (k H locs ls h1 h2 h3 h4 h5 h6)
theorem lB_iand (hF : lF C γC γM l Ln xs b) {x y : Int32} (hd : xI code pc .iand 1 pc')  (k : lB C γC γM hc hm pc' L (.int (x &&& y) :: st)) : lB C γC γM hc hm pc L (.int y :: .int x :: st) := by
  obtain ⟨p, l', e, s, m, below, meth, c, b'⟩ := C
  obtain ⟨hx, hb, hml, rfl, rfl, hown, hts, hKC, hKM, hStC, hStM, hX, hbl, hdj, hrt, hlk⟩ := hF
  obtain ⟨hd, rfl⟩ := hd
  exact fun H locs ls h1 h2 h3 h4 h5 h6 => lv_iand hx hb hd (k H locs ls h1 h2 h3 h4 h5 h6)
theorem lB_slen (hF : lF C γC γM l Ln xs b) (hd : xI code pc .arraylength 1 pc') (k : lB C γC γM hc hm pc' L (.int (Int32.ofNat Ln) :: st)) : lB C γC γM hc hm pc L (.ref b :: st) := by
  obtain ⟨p, l', e, s, m, below, meth, c, b'⟩ := C
  obtain ⟨hx, hb, hml, rfl, rfl, hown, hts, hKC, hKM, hStC, hStM, hX, hbl, hdj, hrt, hlk⟩ := hF
  obtain ⟨hd, rfl⟩ := hd
  exact fun H locs ls h1 h2 h3 h4 h5 h6 => va_slen hx hb hX hbl (Nat.not_le.mpr hbl) h5 hd (k H locs ls h1 h2 h3 h4 h5 h6)
theorem lB_sld (hF : lF C γC γM l Ln xs b) {i : Int32} {v : Int32} (hd : xI code pc .iaload 1 pc') (hi : vp_in i Ln) (hv : xs i.toNatClampNeg = v) (k : lB C γC γM hc hm pc' L (.int v :: st)) : lB C γC γM hc hm pc L (.int i :: .ref b :: st) := by
  subst hv
  obtain ⟨p, l', e, s, m, below, meth, c, b'⟩ := C
  obtain ⟨hx, hb, hml, rfl, rfl, hown, hts, hKC, hKM, hStC, hStM, hX, hbl, hdj, hrt, hlk⟩ := hF
  obtain ⟨hd, rfl⟩ := hd
  exact fun H locs ls h1 h2 h3 h4 h5 h6 => va_sld hx hb hX hbl (Nat.not_le.mpr hbl) h5 hi hd (k H locs ls h1 h2 h3 h4 h5 h6)
theorem lB_goto (hF : lF C γC γM l Ln xs b) {off : Int} {tgt : Nat} (hd : xI code pc (.goto off) 3 pc') (ht : (pc : Int) + off = (tgt : Int)) (k : lB C γC γM hc hm tgt L st) : lB C γC γM hc hm pc L st := by
  obtain ⟨p, l', e, s, m, below, meth, c, b'⟩ := C
  obtain ⟨hx, hb, hml, rfl, rfl, hown, hts, hKC, hKM, hStC, hStM, hX, hbl, hdj, hrt, hlk⟩ := hF
  obtain ⟨hd, rfl⟩ := hd
  exact fun H locs ls h1 h2 h3 h4 h5 h6 => lv_goto hx hb hd ht (k H locs ls h1 h2 h3 h4 h5 h6)
theorem lB_gt (hF : lF C γC γM l Ln xs b) {x y : Int32} {off : Int} {tgt : Nat} (hd : xI code pc (.if_icmp .gt off) 3 pc') (ht : (pc : Int) + off = (tgt : Int)) (kt : y < x → lB C γC γM hc hm tgt L st) (kf : ¬ y < x → lB C γC γM hc hm pc' L st) : lB C γC γM hc hm pc L (.int y :: .int x :: st) := by
  obtain ⟨p, l', e, s, m, below, meth, c, b'⟩ := C
  obtain ⟨hx, hb, hml, rfl, rfl, hown, hts, hKC, hKM, hStC, hStM, hX, hbl, hdj, hrt, hlk⟩ := hF
  obtain ⟨hd, rfl⟩ := hd
  exact fun H locs ls h1 h2 h3 h4 h5 h6 => lv_icmp_gt hx hb hd ht (fun c => kt c H locs ls h1 h2 h3 h4 h5 h6) (fun c => kf c H locs ls h1 h2 h3 h4 h5 h6)
theorem lB_eq (hF : lF C γC γM l Ln xs b) {x : Int32} {off : Int} {tgt : Nat} (hd : xI code pc (.if_icmp .eq off) 3 pc') (ht : (pc : Int) + off = (tgt : Int)) (kt : lB C γC γM hc hm tgt L st) : lB C γC γM hc hm pc L (.int x :: .int x :: st) := by
  obtain ⟨p, l', e, s, m, below, meth, c, b'⟩ := C
  obtain ⟨hx, hb, hml, rfl, rfl, hown, hts, hKC, hKM, hStC, hStM, hX, hbl, hdj, hrt, hlk⟩ := hF
  obtain ⟨hd, rfl⟩ := hd
  exact fun H locs ls h1 h2 h3 h4 h5 h6 => lv_icmp_eq hx hb hd ht (fun c => kt H locs ls h1 h2 h3 h4 h5 h6) (fun c => absurd rfl c)
theorem lB_iinc (hF : lF C γC γM l Ln xs b) {i : Nat} {n : Int} {x y : Int32} {L' : List (Option Value)} (hd : xI code pc (.iinc i n) 3 pc') (hl : L[i]? = some (some (.int x))) (hy : Int32.ofInt n = y) (hn : Nat.ble (i + 1) 4 = true) (hc9 : xlc L i = true) (hL : L.set i (some (.int (x + y))) = L') (k : lB C γC γM hc hm pc' L' st) : lB C γC γM hc hm pc L st := by
  subst hL; subst hy
  obtain ⟨p, l', e, s, m, below, meth, c, b'⟩ := C
  obtain ⟨hx, hb, hml, rfl, rfl, hown, hts, hKC, hKM, hStC, hStM, hX, hbl, hdj, hrt, hlk⟩ := hF
  obtain ⟨hd, rfl⟩ := hd
  intro H locs ls h1 h2 h3 h4 h5 h6
  obtain ⟨k9, hk9⟩ := List.getElem?_of_mem ((xlg_mem L 0 (i, .int x)).mpr ⟨Nat.zero_le _, hl⟩)
  exact lv_iinc hx hb hd h6 (k := k9) hk9 rfl (Nat.le_of_ble_eq_true hn) rfl (fun ls2 h7 => k H locs ls2 h1 h2 h3 h4 h5 (xl_set hc9 h7))
theorem lB_tableIn (hF : lF C γC γM l Ln xs b) {dflt lo hi : Int} {offs : Array Int} {len : Nat} {x v : Int32} {off : Int} {tgt : Nat} (hd : xI code pc (.tableswitch dflt lo hi offs) len pc') (hv : x = v) (g1 : ¬ v.toInt < lo) (g2 : ¬ hi < v.toInt) (ho : offs[(v.toInt - lo).toNat]? = some off) (ht : (pc : Int) + off = (tgt : Int)) (k : lB C γC γM hc hm tgt L st) : lB C γC γM hc hm pc L (.int x :: st) := by
  subst hv
  obtain ⟨p, l', e, s, m, below, meth, c, b'⟩ := C
  obtain ⟨hx, hb, hml, rfl, rfl, hown, hts, hKC, hKM, hStC, hStM, hX, hbl, hdj, hrt, hlk⟩ := hF
  obtain ⟨hd, rfl⟩ := hd
  exact fun H locs ls h1 h2 h3 h4 h5 h6 => lv_tableIn hx hb hd g1 g2 ho ht (k H locs ls h1 h2 h3 h4 h5 h6)
theorem lB_tableOut (hF : lF C γC γM l Ln xs b) {dflt lo hi : Int} {offs : Array Int} {len : Nat} {x : Int32} {tgt : Nat} (hd : xI code pc (.tableswitch dflt lo hi offs) len pc') (ho : x.toInt < lo ∨ hi < x.toInt) (ht : (pc : Int) + dflt = (tgt : Int)) (k : lB C γC γM hc hm tgt L st) : lB C γC γM hc hm pc L (.int x :: st) := by
  obtain ⟨p, l', e, s, m, below, meth, c, b'⟩ := C
  obtain ⟨hx, hb, hml, rfl, rfl, hown, hts, hKC, hKM, hStC, hStM, hX, hbl, hdj, hrt, hlk⟩ := hF
  obtain ⟨hd, rfl⟩ := hd
  exact fun H locs ls h1 h2 h3 h4 h5 h6 => lv_tableOut hx hb hd ho ht (k H locs ls h1 h2 h3 h4 h5 h6)
theorem lB_end (hF : lF C γC γM l Ln xs b) (hd : xI code pc .ireturn 1 pc') : lB C γC γM hc hm pc L [.int 1] := by
  obtain ⟨p, l', e, s, m, below, meth, c, b'⟩ := C
  obtain ⟨hx, hb, hml, rfl, rfl, hown, hts, hKC, hKM, hStC, hStM, hX, hbl, hdj, hrt, hlk⟩ := hF
  obtain ⟨hd, rfl⟩ := hd
  intro H locs ls h1 h2 h3 h4 h5 h6
  refine va_forget (fun q hq => h5.2.2 q hq) ?_
  refine W.widen (k := 600000) (n := 7302250) (Nat.le_of_ble_eq_true rfl) (Nat.le_of_ble_eq_true rfl) ?_
  exact lw_ret hx hb hrt hlk hd
theorem xrun2 {p : Program} {l : Launch} {e : Env} {R : Room} {s : State} {m : MethodId} {args : Array Value} {below : List Frame} {meth : Method} {c : Code} {H : Heap} {locs : List Loc} {Q : State → Prop} {cells slots : Nat} {γ : xG} {S : xS} {h h1 : xH} {rv1 : Option Value} {A : Nat → Prop} {pc : Nat} {ls : Array Slot} {st0 rest : List Value} {a : Array Value}
    (hr : va_Run p l e R s m args below meth c H locs cells slots 0 0 (F0 m pc ls st0) rest (xQ γ S rv1 h1 (va_A (xws γ S h) H.size) a) (va_A (xws γ S h) H.size)) (hD : va_D A (xws γ S h)) (hA : ∀ q, s.heap.size ≤ q → A q) (hS : va_S A s.heap H locs)
    (kk : ∀ (H1 : Heap) (locs1 : List Loc), va_P γ.1 vwCl (xws γ S h1) H1 → va_D A (xws γ S h1) → va_S A s.heap H1 locs1 → (∀ q : Nat, q < H.size → ¬ va_A (xws γ S h) H.size q → H1[q]? = H[q]?) → W p l e R s m args below meth c H1 locs1 cells slots Q (F0 m (pc + 3) ls (rv1.toList ++ rest))) : W p l e R s m args below meth c H locs cells slots Q (F0 m pc ls st0) := by
  intro T hT X
  obtain ⟨v, st₀, t, T', L, h0, X', hL, e1, e2, ⟨hv, hP1, hD1, hz, hk⟩, st⟩ := hr T hT X
  cases hv
  rw [h0] at hz hk
  have hF : ∀ q, va_A (xws γ S h) H.size q → A q := by
    intro q hq
    rcases hq with ⟨k, e, hk⟩ | hq
    · exact hD.2 k _ hk
    · exact hA q (Nat.le_trans hS.1 hq)
  obtain ⟨t2, a1, b1⟩ := kk T'.heap (locs ++ L) (by rw [e1]; exact hP1) (hD1.weaken (fun _ q _ hq => hF q.1 hq)) ⟨Nat.le_trans hS.1 (by rw [e1]; exact hz), fun q g1 g2 => by rw [e1, hk q (Nat.lt_of_lt_of_le g1 hS.1) (fun z => g2 (hF q z))]; exact hS.2.1 q g1 g2, fun q hq => by
      rcases List.mem_append.mp hq with g | g
      · exact hS.2.2 q g
      · exact hF _ (hL q g)⟩ (fun q g1 g2 => by rw [e1]; exact hk q g1 g2) T' rfl X'
  exact ⟨t2, st t2 a1, b1⟩
theorem xapart {γ γ' : xG} {S S' : xS} {h h' : xH} {H H1 : Heap} (hP : va_P γ.1 vwCl (xws γ S h) H) (hd : ∀ i j, i < S.length → j < S'.length → γ.2.2.2 i ≠ γ'.2.2.2 j) (hk : ∀ q : Nat, q < H.size → ¬ va_A (xws γ' S' h') H.size q → H1[q]? = H[q]?) : va_P γ.1 vwCl (xws γ S h) H1 := by
  refine hP.kept (fun k q hq => hk q.1 (hP k q hq).lt (fun hA => ?_))
  obtain ⟨f, hf, rfl⟩ := xws_inv hq
  rcases hA with ⟨j, e, hj⟩ | hA
  · obtain ⟨g, hg, h2⟩ := xws_inv hj
    have h3 : γ.2.2.2 k = γ'.2.2.2 j := congrArg Prod.fst h2
    exact hd k j (List.getElem?_eq_some_iff.mp hf).1 (List.getElem?_eq_some_iff.mp hg).1 h3
  · exact absurd (hP k _ hq).lt (Nat.not_lt.mpr hA)
theorem lB_callC (hF : lF C γC γM l Ln xs b) {idx nn nL1 ht1 : Nat} {y : MethodName} {cc1 : ByteArray} {As : List Value} {r1 : Int32} {hc1 : xH} (hd : xI code pc (.invokevirtual idx) 3 pc') (hM : xCT l γC xSC y cc1 nL1 (some .int) ht1 (.ref (γC.2.2.2 0) :: As) hc (some (.int r1)) hc1) (hw : xCV RL idx y cc1 nL1 (some .int) nn 6) (hh : Nat.ble ht1 1700 = true) (hn : As.length = nn) (hst : st = As.reverse ++ .ref (γC.2.2.2 0) :: rest) (hsum : Nat.ble (rest.map fun v => v.category).sum 8 = true) (k : lB C γC γM hc1 hm pc' L (.int r1 :: rest)) : lB C γC γM hc hm pc L st := by
  obtain ⟨p, l', e, s, m, below, meth, c, b'⟩ := C
  obtain ⟨hx, hb, hml, rfl, rfl, hown, hts, hKC, hKM, hStC, hStM, hX, hbl, hdj, hrt, hlk⟩ := hF
  obtain ⟨hd, rfl⟩ := hd
  obtain ⟨w1, w2, w3, w4, w5, w6, w7, w8, w9, q, hq, hq1⟩ := hw
  have hh := Nat.le_of_ble_eq_true hh
  have w6 := Nat.le_of_ble_eq_true w6
  have hA : ∀ q : Nat, s.heap.size ≤ q → (fun q : Nat => s.heap.size ≤ q) q := fun _ h => h
  intro H locs ls g1 g2 g3 g4 g5 g6
  refine xrun2 (va_runV (As := As) (rest := rest) (n := nn) (Ts := xWS) (C := y.cls) ⟨hx, hb, hml, hown, hts⟩ (hM H.size) (cwV nn hts (xGood (fun w hw => ?_)) rfl rfl rfl ⟨rfl, w7, w8, w9⟩ ⟨?_, ?_⟩) ⟨xP_blind, ?_, fun U hU hW => xPre (As := .ref _ :: As) hKC hStC hA g1 g3 g5 hU hW⟩ rfl hn (g6.1) hst (by show 2 * 0 + _ ≤ 8; have := Nat.le_of_ble_eq_true hsum; omega) hd ⟨Nat.le_of_ble_eq_true rfl, Nat.le_of_ble_eq_true rfl⟩) g3 hA g5 (fun H1 locs1 q1 q2 q3 q4 => k H1 locs1 ls q1 (xapart (γ' := γC) (S' := xSC) (h' := hc) g2 (fun i j hi hj hq => hdj j i hj hi hq.symm) q4) q2 g4 q3 g6)
  · simp only [wsV, List.mem_append, List.mem_cons, List.not_mem_nil, or_false] at hw
    rcases hw with (rfl | rfl | rfl | rfl) | rfl | hw
    · exact w1
    · exact w2
    · exact w3
    · exact w4
    · exact w5
    · exact hw
  · show ht1 + 1 ≤ 2048
    omega
  · show 8 + (nL1 + 11) + 48 * ht1 ≤ 84000
    omega
  · obtain ⟨cell, c1, c2, c3⟩ := va_recv hKC g1 hq (q0 := 0) (xws_get (S := xSC) (k := 0) rfl)
    exact ⟨cell, c1, c2, by rw [← hq1]; exact c3⟩
theorem lB_callM (hF : lF C γC γM l Ln xs b) {idx nn nL1 ht1 : Nat} {y : MethodName} {cc1 : ByteArray} {As : List Value} {r1 : Int32} {hm1 : xH} (hd : xI code pc (.invokevirtual idx) 3 pc') (hM : xCT l γM xSM y cc1 nL1 (some .int) ht1 (.ref (γM.2.2.2 0) :: As) hm (some (.int r1)) hm1) (hw : xCV RL idx y cc1 nL1 (some .int) nn 7) (hh : Nat.ble ht1 1700 = true) (hn : As.length = nn) (hst : st = As.reverse ++ .ref (γM.2.2.2 0) :: rest) (hsum : Nat.ble (rest.map fun v => v.category).sum 8 = true) (k : lB C γC γM hc hm1 pc' L (.int r1 :: rest)) : lB C γC γM hc hm pc L st := by
  obtain ⟨p, l', e, s, m, below, meth, c, b'⟩ := C
  obtain ⟨hx, hb, hml, rfl, rfl, hown, hts, hKC, hKM, hStC, hStM, hX, hbl, hdj, hrt, hlk⟩ := hF
  obtain ⟨hd, rfl⟩ := hd
  obtain ⟨w1, w2, w3, w4, w5, w6, w7, w8, w9, q, hq, hq1⟩ := hw
  have hh := Nat.le_of_ble_eq_true hh
  have w6 := Nat.le_of_ble_eq_true w6
  have hA : ∀ q : Nat, s.heap.size ≤ q → (fun q : Nat => s.heap.size ≤ q) q := fun _ h => h
  intro H locs ls g1 g2 g3 g4 g5 g6
  refine xrun2 (va_runV (As := As) (rest := rest) (n := nn) (Ts := xWS) (C := y.cls) ⟨hx, hb, hml, hown, hts⟩ (hM H.size) (cwV nn hts (xGood (fun w hw => ?_)) rfl rfl rfl ⟨rfl, w7, w8, w9⟩ ⟨?_, ?_⟩) ⟨xP_blind, ?_, fun U hU hW => xPre (As := .ref _ :: As) hKM hStM hA g2 g4 g5 hU hW⟩ rfl hn (g6.1) hst (by show 2 * 0 + _ ≤ 8; have := Nat.le_of_ble_eq_true hsum; omega) hd ⟨Nat.le_of_ble_eq_true rfl, Nat.le_of_ble_eq_true rfl⟩) g4 hA g5 (fun H1 locs1 q1 q2 q3 q4 => k H1 locs1 ls (xapart (γ' := γM) (S' := xSM) (h' := hm) g1 (fun i j hi hj hq => hdj i j hi hj hq) q4) q1 g3 q2 q3 g6)
  · simp only [wsV, List.mem_append, List.mem_cons, List.not_mem_nil, or_false] at hw
    rcases hw with (rfl | rfl | rfl | rfl) | rfl | hw
    · exact w1
    · exact w2
    · exact w3
    · exact w4
    · exact w5
    · exact hw
  · show ht1 + 1 ≤ 2048
    omega
  · show 8 + (nL1 + 11) + 48 * ht1 ≤ 84000
    omega
  · obtain ⟨cell, c1, c2, c3⟩ := va_recv hKM g2 hq (q0 := 0) (xws_get (S := xSM) (k := 0) rfl)
    exact ⟨cell, c1, c2, by rw [← hq1]; exact c3⟩
end XL
