def nX (γ : xG) (U : State) : Prop := va_AO "DayMarket$Row" U ∧ va_AO "DayMarket$Slot" U ∧ (∃ kA : Class, U.vm.classes[γ.2.1 1]? = some kA ∧ kA.kind = .array (γ.2.1 0) (.array .int)) ∧ ∃ (kC : Class) (cc : ClassId), U.vm.classes[γ.2.1 0]? = some kC ∧ kC.kind = .array cc .int
theorem nX.moved {γ : xG} {u U : State} (hvm : u.vm.Alike U.vm) (h : nX γ u) : nX γ U := by
  obtain ⟨h1, h2, ⟨kA, a1, a2⟩, ⟨kC, cc, b1, b2⟩⟩ := h
  obtain ⟨kA', c1, c2⟩ := hvm.2.2 _ _ a1
  obtain ⟨kC', d1, d2⟩ := hvm.2.2 _ _ b1
  exact ⟨h1.moved hvm, h2.moved hvm, ⟨kA', c1, by rw [c2]; exact a2⟩, ⟨kC', cc, d1, by rw [d2]; exact b2⟩⟩
abbrev zA (γ : xG) (n : Nat) : va_E := .inl (γ.2.1 0, n, .inl (fun _ => 0))
def nR (f k n : Nat) : Room := { frames := f, cells := k, slots := n, locals := 48 * f }
def nP (γ : xG) (av : List Value) (ws : va_W) (sz : Nat) : Array Value → State → Prop := va_Pc av (fun U => U.heap.size = sz ∧ va_P γ.1 vwCl ws U.heap ∧ va_K γ.1 vwCl (xTy γ) U ∧ va_D (fun _ => True) ws ∧ xSt γ.2.2.1 (va_A ws sz) U U.heap ∧ nX γ U)
def nQ (γ : xG) (W1 : (Nat → Nat) → va_W) (A : Nat → Prop) : Array Value → State → Outcome → State → Prop := fun _ st oc t => (∃ α : Nat → Nat, oc = .returned none ∧ va_P γ.1 vwCl (W1 α) t.heap ∧ va_D A (W1 α)) ∧ va_F A st t
def nCT (l : Launch) (γ : xG) (y : MethodName) (cc : ByteArray) (nL f mc ms : Nat) (av : List Value) (ws : va_W) (W1 : (Nat → Nat) → va_W) : Prop :=
  ∀ sz : Nat, Met l y (.code y cc nL none :: xWS) (nR f mc ms) (nP γ av ws sz) (nQ γ W1 (va_A ws sz)) mc ms (va_A ws sz)
theorem nP_blind {γ : xG} {av : List Value} {ws : va_W} {sz : Nat} : FrameBlind (nP γ av ws sz) := by
  intro a U g mk q
  obtain ⟨q0, q1, qP, qK, qD, qS, qX⟩ := q
  exact ⟨q0, q1, qP, va_K.moved (u := U) (U := U.calling g mk a) (Vm.Alike.refl U.vm) qK, qD, xSt.same (u := U) (U := U.calling g mk a) rfl qS, nX.moved (u := U) (U := U.calling g mk a) (Vm.Alike.refl U.vm) qX⟩
abbrev nCx : Type := (Program × Launch × Env × State × MethodId × Array Value × List Frame × Method × Code) × (Nat → Prop) × Nat × Nat × xG × ((Nat → Nat) → va_W) × Nat × Nat
def nB (C : nCx) (ws : va_W) (k n pc : Nat) (L : List (Option Value)) (st : List Value) : Prop := match C with
  | ((p, l, e, s, m, args, below, meth, c), A, nL, f, γ, W1, mc, ms) => ∀ (H : Heap) (locs : List Loc) (ls : Array Slot), va_P γ.1 vwCl ws H → va_D A ws → va_S A s.heap H locs → lv_has ls nL (xlg 0 L) → W p l e (nR f mc ms) s m args below meth c H locs k n (MQ below (nQ γ W1 A) args s mc ms A) (F0 m pc ls st)
def nF (C : nCx) (cc : ByteArray) (own : String) (nL f : Nat) (γ : xG) (W1 : (Nat → Nat) → va_W) (mc ms : Nat) (l : Launch) : Prop := match C with
  | ((p, l', _, s, m, args, _, meth, c), A, nL', f', γ', W1', mc', ms') => p.tables.exec = Jvm.exec ∧ c.code = cc ∧ c.maxLocals = nL ∧ nL' = nL ∧ f' = f ∧ γ' = γ ∧ W1' = W1 ∧ mc' = mc ∧ ms' = ms ∧ l' = l ∧ s.vm.findClass own = some m.cls ∧ (∀ w ∈ xWS, w.before args s = true) ∧ va_K γ.1 vwCl (xTy γ) s ∧ xSt γ.2.2.1 A s s.heap ∧ nX γ s ∧ (∀ q, s.heap.size ≤ q → A q) ∧ meth.sig.returnType = none ∧ meth.locks = false ∧ meth.name = "<init>"
theorem nCT.of {l : Launch} {γ : xG} {y : MethodName} {cc : ByteArray} {nL f mc ms : Nat} {av : List Value} {ws : va_W} {W1 : (Nat → Nat) → va_W} {own : String} {L : List (Option Value)}
    (hy : plainName y.cls = true) (hown : y.cls = own) (hyn : y.name = "<init>") (hn : Nat.ble (lg_sl av).length nL = true) (hL : xlg 0 L = lv_args 0 av) (body : ∀ C : nCx, nF C cc own nL f γ W1 mc ms l → nB C ws 0 0 0 L []) : nCT l γ y cc nL f mc ms av ws W1 := by
  intro sz
  refine Met.ofW (cc := cc) (maxL := nL) (ret := none) hy rfl ?_
  intro p e s m args below meth c s₁ B hml hv
  obtain ⟨rfl, hsz, hP, hK, hD0, hst, hnx⟩ := hv
  subst hsz
  have hts := atoms_spec (ws := .code y cc nL none :: xWS) B.pre
  have hw : s.vm.findClass own = some m.cls := hown ▸ findClass_of_methodNamed B.named
  have hin : meth.name = "<init>" := hyn ▸ (name_of_methodNamed B.named B.method).1
  have hl := lv_entry av (n := nL) (Nat.le_of_ble_eq_true hn)
  rw [lg_entry_eq]
  rw [← hL] at hl
  exact body ((p, l, e, s, m, av.toArray, below, meth, c), va_A ws s.heap.size, nL, f, γ, W1, mc, ms) ⟨B.exec, B.bytes, hml, rfl, rfl, rfl, rfl, rfl, rfl, rfl, hw, fun w h => hts w (List.mem_cons_of_mem _ h), hK, hst, hnx, fun q h => Or.inr h, B.returns, B.notSynchronized, hin⟩ s.heap [] _ hP hD0.self va_S.rf hl
section XN
variable {C : nCx} {cc : ByteArray} {own : String} {nL f : Nat} {γ : xG} {W1 : (Nat → Nat) → va_W} {mc ms : Nat} {l : Launch} {ws ws' : va_W} {k n k' n' pc pc' : Nat} {L : List (Option Value)} {st : List Value}
theorem nB_iconst (hF : nF C cc own nL f γ W1 mc ms l) {z : Int} {v : Int32} (hd : xI cc pc (.iconst z) 1 pc') (hv : Int32.ofInt z = v) (kk : nB C ws k n pc' L (.int v :: st)) : nB C ws k n pc L (st) := by
  obtain ⟨⟨p, l', e, s, m, args, below, meth, c⟩, A, nL', f', γ', W1', mc', ms'⟩ := C
  obtain ⟨hx, hb, hml, rfl, rfl, rfl, rfl, rfl, rfl, rfl, hown, hts, hK, hSt, hnx, hA, hrt, hlk, hin⟩ := hF
  obtain ⟨hd, rfl⟩ := hd
  exact fun H locs ls h1 h2 h3 h4 => lv_iconst hx hb hd hv (kk H locs ls h1 h2 h3 h4)
theorem nB_bipush (hF : nF C cc own nL f γ W1 mc ms l) {z : Int} {v : Int32} (hd : xI cc pc (.bipush z) 2 pc') (hv : (Int8.ofInt z).toInt32 = v) (kk : nB C ws k n pc' L (.int v :: st)) : nB C ws k n pc L (st) := by
  obtain ⟨⟨p, l', e, s, m, args, below, meth, c⟩, A, nL', f', γ', W1', mc', ms'⟩ := C
  obtain ⟨hx, hb, hml, rfl, rfl, rfl, rfl, rfl, rfl, rfl, hown, hts, hK, hSt, hnx, hA, hrt, hlk, hin⟩ := hF
  obtain ⟨hd, rfl⟩ := hd
  exact fun H locs ls h1 h2 h3 h4 => lv_bipush hx hb hd hv (kk H locs ls h1 h2 h3 h4)
theorem nB_sipush (hF : nF C cc own nL f γ W1 mc ms l) {z : Int} {v : Int32} (hd : xI cc pc (.sipush z) 3 pc') (hv : (Int16.ofInt z).toInt32 = v) (kk : nB C ws k n pc' L (.int v :: st)) : nB C ws k n pc L (st) := by
  obtain ⟨⟨p, l', e, s, m, args, below, meth, c⟩, A, nL', f', γ', W1', mc', ms'⟩ := C
  obtain ⟨hx, hb, hml, rfl, rfl, rfl, rfl, rfl, rfl, rfl, hown, hts, hK, hSt, hnx, hA, hrt, hlk, hin⟩ := hF
  obtain ⟨hd, rfl⟩ := hd
  exact fun H locs ls h1 h2 h3 h4 => lv_sipush hx hb hd hv (kk H locs ls h1 h2 h3 h4)
theorem nB_iload_n (hF : nF C cc own nL f γ W1 mc ms l) {k0 : Fin 4} {x : Int32} (hd : xI cc pc (.iload_n k0) 1 pc') (hl : L[(k0 : Nat)]? = some (some (.int x))) (kk : nB C ws k n pc' L (.int x :: st)) : nB C ws k n pc L (st) := by
  obtain ⟨⟨p, l', e, s, m, args, below, meth, c⟩, A, nL', f', γ', W1', mc', ms'⟩ := C
  obtain ⟨hx, hb, hml, rfl, rfl, rfl, rfl, rfl, rfl, rfl, hown, hts, hK, hSt, hnx, hA, hrt, hlk, hin⟩ := hF
  obtain ⟨hd, rfl⟩ := hd
  exact fun H locs ls h1 h2 h3 h4 => lv_iload_n hx hb hd rfl (xl_get h4 hl) (kk H locs ls h1 h2 h3 h4)
theorem nB_aload_n (hF : nF C cc own nL f γ W1 mc ms l) {k0 : Fin 4} {x : Nat} (hd : xI cc pc (.aload_n k0) 1 pc') (hl : L[(k0 : Nat)]? = some (some (.ref x))) (kk : nB C ws k n pc' L (.ref x :: st)) : nB C ws k n pc L (st) := by
  obtain ⟨⟨p, l', e, s, m, args, below, meth, c⟩, A, nL', f', γ', W1', mc', ms'⟩ := C
  obtain ⟨hx, hb, hml, rfl, rfl, rfl, rfl, rfl, rfl, rfl, hown, hts, hK, hSt, hnx, hA, hrt, hlk, hin⟩ := hF
  obtain ⟨hd, rfl⟩ := hd
  exact fun H locs ls h1 h2 h3 h4 => lv_aload_n hx hb hd rfl (xl_get h4 hl) (kk H locs ls h1 h2 h3 h4)
theorem nB_istore_n (hF : nF C cc own nL f γ W1 mc ms l) {k0 : Fin 4} {x : Int32} {L' : List (Option Value)} (hd : xI cc pc (.istore_n k0) 1 pc') (hn : Nat.ble ((k0 : Nat) + 1) nL = true) (hc : xlc L (k0 : Nat) = true) (hL : L.set (k0 : Nat) (some (.int x)) = L') (kk : nB C ws k n pc' L' st) : nB C ws k n pc L (.int x :: st) := by
  subst hL
  obtain ⟨⟨p, l', e, s, m, args, below, meth, c⟩, A, nL', f', γ', W1', mc', ms'⟩ := C
  obtain ⟨hx, hb, hml, rfl, rfl, rfl, rfl, rfl, rfl, rfl, hown, hts, hK, hSt, hnx, hA, hrt, hlk, hin⟩ := hF
  obtain ⟨hd, rfl⟩ := hd
  exact fun H locs ls h1 h2 h3 h4 => lv_istore_n hx hb hd rfl h4 (Nat.le_of_ble_eq_true hn) rfl (fun ls2 h5 => kk H locs ls2 h1 h2 h3 (xl_set hc h5))
theorem nB_iinc (hF : nF C cc own nL f γ W1 mc ms l) {i : Nat} {z : Int} {x y : Int32} {L' : List (Option Value)} (hd : xI cc pc (.iinc i z) 3 pc') (hl : L[i]? = some (some (.int x))) (hy : x + Int32.ofInt z = y) (hn : Nat.ble (i + 1) nL = true) (hc : xlc L i = true) (hL : L.set i (some (.int y)) = L') (kk : nB C ws k n pc' L' st) : nB C ws k n pc L st := by
  subst hL; subst hy
  obtain ⟨⟨p, l', e, s, m, args, below, meth, c⟩, A, nL', f', γ', W1', mc', ms'⟩ := C
  obtain ⟨hx, hb, hml, rfl, rfl, rfl, rfl, rfl, rfl, rfl, hown, hts, hK, hSt, hnx, hA, hrt, hlk, hin⟩ := hF
  obtain ⟨hd, rfl⟩ := hd
  intro H locs ls h1 h2 h3 h4
  obtain ⟨k9, hk9⟩ := List.getElem?_of_mem ((xlg_mem L 0 (i, .int x)).mpr ⟨Nat.zero_le _, hl⟩)
  exact lv_iinc hx hb hd h4 (k := k9) hk9 rfl (Nat.le_of_ble_eq_true hn) rfl (fun ls2 h5 => kk H locs ls2 h1 h2 h3 (xl_set hc h5))
theorem nB_iadd (hF : nF C cc own nL f γ W1 mc ms l) {x y z : Int32} (hd : xI cc pc .iadd 1 pc') (hz : x + y = z) (kk : nB C ws k n pc' L (.int z :: st)) : nB C ws k n pc L (.int y :: .int x :: st) := by
  subst hz
  obtain ⟨⟨p, l', e, s, m, args, below, meth, c⟩, A, nL', f', γ', W1', mc', ms'⟩ := C
  obtain ⟨hx, hb, hml, rfl, rfl, rfl, rfl, rfl, rfl, rfl, hown, hts, hK, hSt, hnx, hA, hrt, hlk, hin⟩ := hF
  obtain ⟨hd, rfl⟩ := hd
  exact fun H locs ls h1 h2 h3 h4 => lv_iadd hx hb hd (kk H locs ls h1 h2 h3 h4)
theorem nB_dup (hF : nF C cc own nL f γ W1 mc ms l) {v : Value} (hd : xI cc pc .dup 1 pc') (hv : v.category = 1) (kk : nB C ws k n pc' L (v :: v :: st)) : nB C ws k n pc L (v :: st) := by
  obtain ⟨⟨p, l', e, s, m, args, below, meth, c⟩, A, nL', f', γ', W1', mc', ms'⟩ := C
  obtain ⟨hx, hb, hml, rfl, rfl, rfl, rfl, rfl, rfl, rfl, hown, hts, hK, hSt, hnx, hA, hrt, hlk, hin⟩ := hF
  obtain ⟨hd, rfl⟩ := hd
  exact fun H locs ls h1 h2 h3 h4 => lv_dup hx hb hd hv (kk H locs ls h1 h2 h3 h4)
theorem nB_goto (hF : nF C cc own nL f γ W1 mc ms l) {off : Int} {tgt : Nat} (hd : xI cc pc (.goto off) 3 pc') (ht : (pc : Int) + off = (tgt : Int)) (kk : nB C ws k n tgt L st) : nB C ws k n pc L st := by
  obtain ⟨⟨p, l', e, s, m, args, below, meth, c⟩, A, nL', f', γ', W1', mc', ms'⟩ := C
  obtain ⟨hx, hb, hml, rfl, rfl, rfl, rfl, rfl, rfl, rfl, hown, hts, hK, hSt, hnx, hA, hrt, hlk, hin⟩ := hF
  obtain ⟨hd, rfl⟩ := hd
  exact fun H locs ls h1 h2 h3 h4 => lv_goto hx hb hd ht (kk H locs ls h1 h2 h3 h4)
theorem nB_ge_t (hF : nF C cc own nL f γ W1 mc ms l) {x y : Int32} {off : Int} {tgt : Nat} (hd : xI cc pc (.if_icmp .ge off) 3 pc') (ht : (pc : Int) + off = (tgt : Int)) (hc : y ≤ x) (kk : nB C ws k n tgt L st) : nB C ws k n pc L (.int y :: .int x :: st) := by
  obtain ⟨⟨p, l', e, s, m, args, below, meth, c⟩, A, nL', f', γ', W1', mc', ms'⟩ := C
  obtain ⟨hx, hb, hml, rfl, rfl, rfl, rfl, rfl, rfl, rfl, hown, hts, hK, hSt, hnx, hA, hrt, hlk, hin⟩ := hF
  obtain ⟨hd, rfl⟩ := hd
  exact fun H locs ls h1 h2 h3 h4 => lv_icmp_ge hx hb hd ht (fun _ => kk H locs ls h1 h2 h3 h4) (fun c => absurd hc c)
theorem nB_ge_f (hF : nF C cc own nL f γ W1 mc ms l) {x y : Int32} {off : Int} {tgt : Nat} (hd : xI cc pc (.if_icmp .ge off) 3 pc') (ht : (pc : Int) + off = (tgt : Int)) (hc : ¬ y ≤ x) (kk : nB C ws k n pc' L st) : nB C ws k n pc L (.int y :: .int x :: st) := by
  obtain ⟨⟨p, l', e, s, m, args, below, meth, c⟩, A, nL', f', γ', W1', mc', ms'⟩ := C
  obtain ⟨hx, hb, hml, rfl, rfl, rfl, rfl, rfl, rfl, rfl, hown, hts, hK, hSt, hnx, hA, hrt, hlk, hin⟩ := hF
  obtain ⟨hd, rfl⟩ := hd
  exact fun H locs ls h1 h2 h3 h4 => lv_icmp_ge hx hb hd ht (fun c => absurd c hc) (fun _ => kk H locs ls h1 h2 h3 h4)
theorem nB_get (hF : nF C cc own nL f γ W1 mc ms l) {idx ci j q0 a : Nat} {fs : List Value} {v : Value} (hd : xI cc pc (.getfield idx) 3 pc') (hl : xFL own idx ci j) (he : ws[q0]? = some (a, .inr (ci, fs))) (hv : fs[j]? = some v) (kk : nB C ws k n pc' L (v :: st)) : nB C ws k n pc L (.ref a :: st) := by
  obtain ⟨⟨p, l', e, s, m, args, below, meth, c⟩, A, nL', f', γ', W1', mc', ms'⟩ := C
  obtain ⟨hx, hb, hml, rfl, rfl, rfl, rfl, rfl, rfl, rfl, hown, hts, hK, hSt, hnx, hA, hrt, hlk, hin⟩ := hF
  obtain ⟨hd, rfl⟩ := hd
  obtain ⟨q, hc, hi, hj, hlk2⟩ := hl
  exact fun H locs ls h1 h2 h3 h4 => va_get (C := q.1) (T := q.2.1) (N := q.2.2) hx hb hts hi hown hK h1 q0 he hc j (Nat.le_of_ble_eq_true hj) (hts _ hlk2) (fun _ h9 => h9) hv hd (kk H locs ls h1 h2 h3 h4)
def nFP (own : String) (idx ci j : Nat) (ty : FieldType) (fin : Bool) : Prop := ∃ (q : vw_C) (ty0 : Nat → FieldType), vwCl[ci]? = some q ∧ (∀ w ∈ u_ws q.1 q.2.1 q.2.2, w ∈ xWS) ∧ Nat.ble (j + 1) q.2.2 = true ∧ Cond.fieldLink own idx (q.2.1 j).1 (q.2.1 j).2.1 (q.2.1 j).2.2.1 ∈ xWS ∧ (∀ k, k < q.2.2 → parseFieldDescriptor (q.2.1 k).2.2.1 = some (ty0 k)) ∧ (∀ a, a < q.2.2 → ∀ b, b < q.2.2 → a ≠ b → (q.2.1 a).2.1 ≠ (q.2.1 b).2.1) ∧ (q.2.1 j).2.2.2 = fin ∧ parseFieldDescriptor (q.2.1 j).2.2.1 = some ty ∧ (q.2.1 j).1 = own
theorem nB_putF (hF : nF C cc own nL f γ W1 mc ms l) {idx ci j q0 a : Nat} {fs : List Value} {ty : FieldType} {v : Value} (hd : xI cc pc (.putfield idx) 3 pc') (hl : nFP own idx ci j ty true) (he : ws[q0]? = some (a, .inr (ci, fs))) (hn : narrow ty v = v) (hfit : fits ty v = true) (hj2 : Nat.ble (j + 1) fs.length = true) (hw : ws.set q0 (a, .inr (ci, fs.set j v)) = ws') (kk : nB C ws' k n pc' L st) : nB C ws k n pc L (v :: .ref a :: st) := by
  subst hw
  obtain ⟨⟨p, l', e, s, m, args, below, meth, c⟩, A, nL', f', γ', W1', mc', ms'⟩ := C
  obtain ⟨hx, hb, hml, rfl, rfl, rfl, rfl, rfl, rfl, rfl, hown, hts, hK, hSt, hnx, hA, hrt, hlk, hin⟩ := hF
  obtain ⟨hd, rfl⟩ := hd
  obtain ⟨q, ty0, hc, hi, hj, hlk2, hty, hnm, hfin, hpd, hdecl⟩ := hl
  exact fun H locs ls h1 h2 h3 h4 => va_putF (C := q.1) (T := q.2.1) (N := q.2.2) hx hb hts hi ty0 hty hnm hown hK h1 h2 h3 q0 he hc j (Nat.le_of_ble_eq_true hj) (hts _ hlk2) (fun _ h9 => h9) hfin hin hdecl hpd hn hfit (Nat.le_of_ble_eq_true hj2) hd (fun H1 locs1 g1 g2 g3 => kk H1 locs1 ls g1 g2 g3 h4)
theorem nB_put (hF : nF C cc own nL f γ W1 mc ms l) {idx ci j q0 a : Nat} {fs : List Value} {ty : FieldType} {v : Value} (hd : xI cc pc (.putfield idx) 3 pc') (hl : nFP own idx ci j ty false) (he : ws[q0]? = some (a, .inr (ci, fs))) (hn : narrow ty v = v) (hfit : fits ty v = true) (hj2 : Nat.ble (j + 1) fs.length = true) (hw : ws.set q0 (a, .inr (ci, fs.set j v)) = ws') (kk : nB C ws' k n pc' L st) : nB C ws k n pc L (v :: .ref a :: st) := by
  subst hw
  obtain ⟨⟨p, l', e, s, m, args, below, meth, c⟩, A, nL', f', γ', W1', mc', ms'⟩ := C
  obtain ⟨hx, hb, hml, rfl, rfl, rfl, rfl, rfl, rfl, rfl, hown, hts, hK, hSt, hnx, hA, hrt, hlk, hin⟩ := hF
  obtain ⟨hd, rfl⟩ := hd
  obtain ⟨q, ty0, hc, hi, hj, hlk2, hty, hnm, hfin, hpd, hdecl⟩ := hl
  exact fun H locs ls h1 h2 h3 h4 => va_put (C := q.1) (T := q.2.1) (N := q.2.2) hx hb hts hi ty0 hty hnm hown hK h1 h2 h3 q0 he hc j (Nat.le_of_ble_eq_true hj) (hts _ hlk2) (fun _ h9 => h9) hfin hpd hn hfit (Nat.le_of_ble_eq_true hj2) hd (fun H1 locs1 g1 g2 g3 => kk H1 locs1 ls g1 g2 g3 h4)
theorem nB_iast (hF : nF C cc own nL f γ W1 mc ms l) {q0 a N j : Nat} {i x : Int32} {g : Nat → Int32} (hd : xI cc pc .iastore 1 pc') (he : ws[q0]? = some (a, .inl (γ.2.1 0, N, .inl g))) (hi : vp_in i N) (hij : i.toNatClampNeg = j) (hw : ws.set q0 (a, .inl (γ.2.1 0, N, .inl (upd g j x))) = ws') (kk : nB C ws' k n pc' L st) : nB C ws k n pc L (.int x :: .int i :: .ref a :: st) := by
  subst hw; subst hij
  obtain ⟨⟨p, l', e, s, m, args, below, meth, c⟩, A, nL', f', γ', W1', mc', ms'⟩ := C
  obtain ⟨hx, hb, hml, rfl, rfl, rfl, rfl, rfl, rfl, rfl, hown, hts, hK, hSt, hnx, hA, hrt, hlk, hin⟩ := hF
  obtain ⟨hd, rfl⟩ := hd
  exact fun H locs ls h1 h2 h3 h4 => va_iast hx hb hK h1 h2 h3 q0 0 he rfl hi hd (fun H1 locs1 g1 g2 g3 => kk H1 locs1 ls g1 g2 g3 h4)
theorem nB_newa (hF : nF C cc own nL f γ W1 mc ms l) {N : Nat} {n0 : Int32} {wf : Nat → va_W} (hd : xI cc pc (.newarray .int) 2 pc') (ha : Cond.arrayClass .int ∈ xWS) (hn : ¬ n0 < 0) (hN : n0.toNatClampNeg = N) (hby : Nat.ble (N * 4) 536870912 = true) (hk : k + 1 = k') (hn2 : n + N = n') (hkc : Nat.ble k' mc = true) (hks : Nat.ble n' ms = true) (hw : ∀ q, ws ++ [(q, zA γ N)] = wf q) (kk : ∀ q, nB C (wf q) k' n' pc' L (.ref q :: st)) : nB C ws k n pc L (.int n0 :: st) := by
  subst hk; subst hn2
  obtain ⟨⟨p, l', e, s, m, args, below, meth, c⟩, A, nL', f', γ', W1', mc', ms'⟩ := C
  obtain ⟨hx, hb, hml, rfl, rfl, rfl, rfl, rfl, rfl, rfl, hown, hts, hK, hSt, hnx, hA, hrt, hlk, hin⟩ := hF
  obtain ⟨hd, rfl⟩ := hd
  intro H locs ls h1 h2 h3 h4
  refine va_newa (atype := .int) (ty := .int) (a0 := (N, .inl (fun _ => 0))) hx hb (hts _ ha) rfl hK h1 h2 h3 hA (fun _ => rfl) hn hN (Nat.le_of_ble_eq_true hby) (Nat.le_of_ble_eq_true hkc) (Nat.le_of_ble_eq_true hks) hd (fun q cA H1 gK g1 g2 g3 => ?_)
  have e1 : cA = γ'.2.1 0 := Option.some.inj ((gK.2 4 _ rfl).2.symm.trans (hK.2 0 _ rfl).2)
  subst e1
  exact kk q H1 locs ls (by rw [← hw q]; exact g1) (by rw [← hw q]; exact g2) g3 h4
theorem nB_new (hF : nF C cc own nL f γ W1 mc ms l) {idx ci : Nat} {q9 : vw_C} {ty : Nat → FieldType} {fs : List Value} {wf : Nat → va_W} (hd : xI cc pc (.new idx) 3 pc') (hc : vwCl[ci]? = some q9) (hi : ∀ w ∈ u_ws q9.1 q9.2.1 q9.2.2, w ∈ xWS) (hty : ∀ k, k < q9.2.2 → parseFieldDescriptor (q9.2.1 k).2.2.1 = some (ty k)) (hw : Cond.classLink own idx q9.1 ∈ xWS ∧ Cond.instantiable q9.1 q9.2.2 ∈ xWS ∧ Cond.initialized q9.1 ∈ xWS) (hfs : ∀ j, j < q9.2.2 → defaultValue (ty j) = vp_V fs j) (hk : k + 1 = k') (hn2 : n + q9.2.2 = n') (hkc : Nat.ble k' mc = true) (hks : Nat.ble n' ms = true) (hwf : ∀ q, ws ++ [(q, .inr (ci, fs))] = wf q) (kk : ∀ q, nB C (wf q) k' n' pc' L (.ref q :: st)) : nB C ws k n pc L st := by
  subst hk; subst hn2
  obtain ⟨⟨p, l', e, s, m, args, below, meth, c⟩, A, nL', f', γ', W1', mc', ms'⟩ := C
  obtain ⟨hx, hb, hml, rfl, rfl, rfl, rfl, rfl, rfl, rfl, hown, hts, hK, hSt, hnx, hA, hrt, hlk, hin⟩ := hF
  obtain ⟨hd, rfl⟩ := hd
  intro H locs ls h1 h2 h3 h4
  exact va_new (C := q9.1) (T := q9.2.1) (N := q9.2.2) hx hb hts hi ty hty hown (hts _ hw.1) (hts _ hw.2.1) (hts _ hw.2.2) hK h1 h2 h3 hA hc hfs (Nat.le_of_ble_eq_true hkc) (Nat.le_of_ble_eq_true hks) hd (fun q H1 g1 g2 g3 => kk q H1 locs ls (by rw [← hwf q]; exact g1) (by rw [← hwf q]; exact g2) g3 h4)
theorem nB_obj (hF : nF C cc own nL f γ W1 mc ms l) {idx a : Nat} (hd : xI cc pc (.invokespecial idx) 3 pc') (hw : Cond.methodLink own idx objectInit ∈ xWS ∧ Cond.instanceMethod objectInit ∈ xWS ∧ Cond.code objectInit ⟨#[0xb1]⟩ 1 none ∈ xWS) (hf : Nat.ble 1 f = true) (hsm : Nat.ble ((st.map fun v => v.category).sum + 12) 48 = true) (kk : nB C ws k n pc' L st) : nB C ws k n pc L (.ref a :: st) := by
  obtain ⟨⟨p, l', e, s, m, args, below, meth, c⟩, A, nL', f', γ', W1', mc', ms'⟩ := C
  obtain ⟨hx, hb, hml, rfl, rfl, rfl, rfl, rfl, rfl, rfl, hown, hts, hK, hSt, hnx, hA, hrt, hlk, hin⟩ := hF
  obtain ⟨hd, rfl⟩ := hd
  intro H locs ls h1 h2 h3 h4
  have hf := Nat.le_of_ble_eq_true hf
  have hsm := Nat.le_of_ble_eq_true hsm
  refine W.objInit hx hb hown (hts _ hw.1) (hts _ hw.2.1) (hts _ hw.2.2) rfl (by rw [hml]; exact h4.1) rfl hd hf (by show 2 * 0 + _ + 12 ≤ 48 * f'; omega) ?_
  exact kk H locs ls h1 h2 h3 h4
/-- behind the call of a constructor: the object was the world's last cell -/
theorem nrun {p : Program} {l : Launch} {e : Env} {R : Room} {s : State} {m : MethodId} {args : Array Value} {below : List Frame} {meth : Method} {c : Code} {H : Heap} {locs : List Loc} {Q : State → Prop} {cells slots mc1 ms1 : Nat} {W2 : (Nat → Nat) → va_W} {wr : va_W} {x : Nat × va_E} {A : Nat → Prop} {pc : Nat} {ls : Array Slot} {st0 rest : List Value} {a : Array Value}
    (hr : va_Run p l e R s m args below meth c H locs cells slots mc1 ms1 (F0 m pc ls st0) rest (nQ γ W2 (va_A [x] H.size) a) (va_A [x] H.size)) (hP : va_P γ.1 vwCl (wr ++ [x]) H) (hD : va_D A (wr ++ [x])) (hA : ∀ q, s.heap.size ≤ q → A q) (hS : va_S A s.heap H locs)
    (kk : ∀ (α : Nat → Nat) (H1 : Heap) (locs1 : List Loc), va_P γ.1 vwCl (wr ++ W2 α) H1 → va_D A (wr ++ W2 α) → va_S A s.heap H1 locs1 → W p l e R s m args below meth c H1 locs1 (cells + mc1) (slots + ms1) Q (F0 m (pc + 3) ls rest)) : W p l e R s m args below meth c H locs cells slots Q (F0 m pc ls st0) := by
  intro T hT X
  obtain ⟨v, st₀, t, T', L, h0, X', hL, e1, e2, ⟨⟨α, hv, hP1, hD1⟩, hz, hk⟩, st⟩ := hr T hT X
  cases hv
  rw [h0] at hz hk
  have hx1 : (wr ++ [x])[wr.length]? = some x := by simp
  have hF : ∀ q, va_A [x] H.size q → A q := by
    intro q hq
    rcases hq with ⟨i, e, hi⟩ | hq
    · have : i = 0 := by
        have := (List.getElem?_eq_some_iff.mp hi).1
        simp at this; exact this
      subst this
      simp at hi
      exact hD.2 _ (q, e) (by rw [hx1, hi])
    · exact hA q (Nat.le_trans hS.1 hq)
  have hwr : ∀ (i : Nat) (y : Nat × va_E), wr[i]? = some y → (wr ++ [x])[i]? = some y := fun i y hy => by
    rw [List.getElem?_append_left (List.getElem?_eq_some_iff.mp hy).1]; exact hy
  have apart : ∀ (i : Nat) (y : Nat × va_E), wr[i]? = some y → y.1 < H.size ∧ ¬ va_A [x] H.size y.1 := by
    intro i y hy
    have hl := (hP i y (hwr i y hy)).lt
    refine ⟨hl, fun hq => ?_⟩
    rcases hq with ⟨j, e, hj⟩ | hq
    · have : j = 0 := by
        have := (List.getElem?_eq_some_iff.mp hj).1
        simp at this; exact this
      subst this
      simp at hj
      have := hD.1 i wr.length y x (hwr i y hy) hx1 (by rw [hj])
      have hlt := (List.getElem?_eq_some_iff.mp hy).1
      omega
    · omega
  have hDr : va_D A wr := ⟨fun i j a b h1 h2 h3 => hD.1 i j a b (hwr i a h1) (hwr j b h2) h3, fun i y h => hD.2 i y (hwr i y h)⟩
  obtain ⟨t2, a1, b1⟩ := kk α T'.heap (locs ++ L) (va_P.app (fun i y hy => (hP i y (hwr i y hy)).kept (by rw [e1]; exact hk y.1 (apart i y hy).1 (apart i y hy).2)) (by rw [e1]; exact hP1)) (va_D.app hDr (hD1.weaken (fun _ q _ hq => hF q.1 hq)) (fun i j a b ha hb hab => (apart i a ha).2 (by rw [hab]; exact hD1.2 j b hb))) ⟨Nat.le_trans hS.1 (by rw [e1]; exact hz), fun q g1 g2 => by rw [e1, hk q (Nat.lt_of_lt_of_le g1 hS.1) (fun z => g2 (hF q z))]; exact hS.2.1 q g1 g2, fun q hq => by
      rcases List.mem_append.mp hq with g | g
      · exact hS.2.2 q g
      · exact hF _ (hL q g)⟩ T' rfl X'
  exact ⟨t2, st t2 a1, b1⟩
theorem nPre {s U : State} {A : Nat → Prop} {H : Heap} {locs : List Loc} {wr : va_W} {x : Nat × va_E} {As : List Value} (hK : va_K γ.1 vwCl (xTy γ) s) (hSt : xSt γ.2.2.1 A s s.heap) (hnx : nX γ s) (hA : ∀ q, s.heap.size ≤ q → A q) (hP : va_P γ.1 vwCl (wr ++ [x]) H) (hD : va_D A (wr ++ [x])) (hS : va_S A s.heap H locs) (hU : U.heap = H) (hW : s.WarmedH U.vm) : nP γ As [x] H.size As.toArray U := by
  have hx1 : (wr ++ [x])[wr.length]? = some x := by simp
  have h0 : ∀ (i : Nat) (y : Nat × va_E), [x][i]? = some y → i = 0 ∧ y = x := by
    intro i y hy
    have := (List.getElem?_eq_some_iff.mp hy).1
    simp at this
    subst this
    simp at hy
    exact ⟨rfl, hy.symm⟩
  have hF : ∀ q, va_A [x] H.size q → A q := by
    intro q hq
    rcases hq with ⟨i, e, hi⟩ | hq
    · obtain ⟨-, h2⟩ := h0 i _ hi
      exact hD.2 _ (q, e) (by rw [hx1, h2])
    · exact hA q (Nat.le_trans hS.1 hq)
  exact ⟨rfl, by rw [hU], by rw [hU]; exact fun i y hy => by obtain ⟨-, rfl⟩ := h0 i y hy; exact hP _ _ hx1, va_K.moved hW.alike hK, ⟨fun i j a b h1 h2 _ => (h0 i a h1).1.trans (h0 j b h2).1.symm, fun _ _ _ => trivial⟩, by rw [hU]; exact xSt.go hW hS.2.1 hF hSt, nX.moved hW.alike hnx⟩
theorem nB_callI (hF : nF C cc own nL f γ W1 mc ms l) {idx nn f1 mc1 ms1 nL1 a : Nat} {y : MethodName} {cc1 : ByteArray} {As : List Value} {W2 : (Nat → Nat) → va_W} {wr : va_W} {e0 : va_E} {wf : (Nat → Nat) → va_W} {stk : List Value} (hd : xI cc pc (.invokespecial idx) 3 pc') (hM : nCT l γ y cc1 nL1 f1 mc1 ms1 (.ref a :: As) [(a, e0)] W2) {host : String} (hl : Cond.methodLinkNest own idx y host ∈ xNest) (hw : Cond.instanceMethod y ∈ xWS ∧ Cond.initialized y.cls ∈ xWS ∧ Cond.code y cc1 nL1 none ∈ xWS ∧ Nat.ble nL1 29 = true ∧ y.cls ≠ "java/lang/invoke/MethodHandle" ∧ y.cls ≠ "java/lang/invoke/VarHandle" ∧ (parseMethodDescriptor y.desc).map (fun d => d.parameters.length) = some nn) (hyn : y.name = "<init>") (hh : Nat.ble (f1 + 1) f = true) (hnn : As.length = nn) (hst : stk = As.reverse ++ .ref a :: st) (hsum : Nat.ble (st.map fun v => v.category).sum 8 = true) (hk : k + mc1 = k') (hn2 : n + ms1 = n') (hkc : Nat.ble k' mc = true) (hks : Nat.ble n' ms = true) (hws : ws = wr ++ [(a, e0)]) (hwf : ∀ α, wr ++ W2 α = wf α) (kk : ∀ α, nB C (wf α) k' n' pc' L st) : nB C ws k n pc L stk := by
  subst hk; subst hn2; subst hws
  obtain ⟨⟨p, l', e, s, m, args, below, meth, c⟩, A, nL', f', γ', W1', mc', ms'⟩ := C
  obtain ⟨hx, hb, hml, rfl, rfl, rfl, rfl, rfl, rfl, rfl, hown, hts, hK, hSt, hnx, hA, hrt, hlk, hin⟩ := hF
  obtain ⟨hd, rfl⟩ := hd
  have hh := Nat.le_of_ble_eq_true hh
  have w5 := Nat.le_of_ble_eq_true hw.2.2.2.1
  have w4 := hw.2.2.1
  intro H locs ls g1 g2 g3 g4
  refine nrun (va_runIN (As := As) (rest := st) (n := nn) (Ts := xWS) (host := host) ⟨hx, hb, hml, hown, hts⟩ (hM H.size) ⟨va_cnB nn hts (xGood (fun w hw => ?_)) rfl rfl rfl (hSt.1 _ hl) (hts _ hw.2.1) ⟨hw.2.2.2.2.1, hw.2.2.2.2.2.1, hw.2.2.2.2.2.2⟩ ⟨hh, ?_⟩, hyn, hts _ hw.1⟩ ⟨nP_blind, fun U hU hW => nPre hK hSt hnx hA g1 g2 g3 hU hW⟩ rfl hnn g4.1 hst (by show 2 * 0 + _ ≤ 8; have := Nat.le_of_ble_eq_true hsum; omega) hd ⟨Nat.le_of_ble_eq_true hkc, Nat.le_of_ble_eq_true hks⟩) g1 g2 hA g3 (fun α H1 locs1 q1 q2 q3 => kk α H1 locs1 ls (by rw [← hwf α]; exact q1) (by rw [← hwf α]; exact q2) q3 g4)
  · rcases List.mem_cons.mp hw with rfl | hw
    · exact w4
    · exact hw
  · show 8 + (nL1 + 11) + 48 * f1 ≤ 48 * f'
    omega
theorem nB_callJ (hF : nF C cc own nL f γ W1 mc ms l) {idx nn f1 mc1 ms1 nL1 a : Nat} {y : MethodName} {cc1 : ByteArray} {As : List Value} {W2 : (Nat → Nat) → va_W} {wr : va_W} {e0 : va_E} {wf : (Nat → Nat) → va_W} {stk : List Value} (hd : xI cc pc (.invokespecial idx) 3 pc') (hM : nCT l γ y cc1 nL1 f1 mc1 ms1 (.ref a :: As) [(a, e0)] W2) (hl : Cond.methodLink own idx y ∈ xWS) (hw : Cond.instanceMethod y ∈ xWS ∧ Cond.initialized y.cls ∈ xWS ∧ Cond.code y cc1 nL1 none ∈ xWS ∧ Nat.ble nL1 29 = true ∧ y.cls ≠ "java/lang/invoke/MethodHandle" ∧ y.cls ≠ "java/lang/invoke/VarHandle" ∧ (parseMethodDescriptor y.desc).map (fun d => d.parameters.length) = some nn) (hyn : y.name = "<init>") (hh : Nat.ble (f1 + 1) f = true) (hnn : As.length = nn) (hst : stk = As.reverse ++ .ref a :: st) (hsum : Nat.ble (st.map fun v => v.category).sum 8 = true) (hk : k + mc1 = k') (hn2 : n + ms1 = n') (hkc : Nat.ble k' mc = true) (hks : Nat.ble n' ms = true) (hws : ws = wr ++ [(a, e0)]) (hwf : ∀ α, wr ++ W2 α = wf α) (kk : ∀ α, nB C (wf α) k' n' pc' L st) : nB C ws k n pc L stk := by
  subst hk; subst hn2; subst hws
  obtain ⟨⟨p, l', e, s, m, args, below, meth, c⟩, A, nL', f', γ', W1', mc', ms'⟩ := C
  obtain ⟨hx, hb, hml, rfl, rfl, rfl, rfl, rfl, rfl, rfl, hown, hts, hK, hSt, hnx, hA, hrt, hlk, hin⟩ := hF
  obtain ⟨hd, rfl⟩ := hd
  have hh := Nat.le_of_ble_eq_true hh
  have w5 := Nat.le_of_ble_eq_true hw.2.2.2.1
  have w4 := hw.2.2.1
  intro H locs ls g1 g2 g3 g4
  refine nrun (va_runI (As := As) (rest := st) (n := nn) (Ts := xWS) ⟨hx, hb, hml, hown, hts⟩ (hM H.size) (cwI nn hts (xGood (fun w hw => ?_)) rfl rfl rfl (hts _ hw.2.1) (hts _ hl) (hts _ hw.1) hyn ⟨hw.2.2.2.2.1, hw.2.2.2.2.2.1, hw.2.2.2.2.2.2⟩ ⟨hh, ?_⟩) ⟨nP_blind, fun U hU hW => nPre hK hSt hnx hA g1 g2 g3 hU hW⟩ rfl hnn g4.1 hst (by show 2 * 0 + _ ≤ 8; have := Nat.le_of_ble_eq_true hsum; omega) hd ⟨Nat.le_of_ble_eq_true hkc, Nat.le_of_ble_eq_true hks⟩) g1 g2 hA g3 (fun α H1 locs1 q1 q2 q3 => kk α H1 locs1 ls (by rw [← hwf α]; exact q1) (by rw [← hwf α]; exact q2) q3 g4)
  · rcases List.mem_cons.mp hw with rfl | hw
    · exact w4
    · exact hw
  · show 8 + (nL1 + 11) + 48 * f1 ≤ 48 * f'
    omega
theorem nB_anew (hF : nF C cc own nL f γ W1 mc ms l) {idx N t : Nat} {n0 : Int32} {Cn : String} {wf : Nat → va_W} (hd : xI cc pc (.anewarray idx) 3 pc') (hcl : Cond.classLink own idx Cn ∈ xWS) (hao : ∀ U : State, nX γ U → va_AO Cn U) (ht : (xTy γ)[t]? = some (γ.2.1 t, .object Cn)) (hn : ¬ n0 < 0) (hN : n0.toNatClampNeg = N) (hby : Nat.ble (N * 4) 536870912 = true) (hk : k + 1 = k') (hn2 : n + N = n') (hkc : Nat.ble k' mc = true) (hks : Nat.ble n' ms = true) (hw : ∀ q, ws ++ [(q, .inl (γ.2.1 t, N, .inr (.inr (.inr (.inr (fun _ => none))))))] = wf q) (kk : ∀ q, nB C (wf q) k' n' pc' L (.ref q :: st)) : nB C ws k n pc L (.int n0 :: st) := by
  subst hk; subst hn2
  obtain ⟨⟨p, l', e, s, m, args, below, meth, c⟩, A, nL', f', γ', W1', mc', ms'⟩ := C
  obtain ⟨hx, hb, hml, rfl, rfl, rfl, rfl, rfl, rfl, rfl, hown, hts, hK, hSt, hnx, hA, hrt, hlk, hin⟩ := hF
  obtain ⟨hd, rfl⟩ := hd
  intro H locs ls h1 h2 h3 h4
  refine va_newq (C := Cn) hx hb hown (hts _ hcl) (hao _ hnx) hK h1 h2 h3 hA hn hN (Nat.le_of_ble_eq_true hby) (Nat.le_of_ble_eq_true hkc) (Nat.le_of_ble_eq_true hks) hd (fun q cA H1 gK g1 g2 g3 => ?_)
  have e1 : cA = γ'.2.1 t := by
    obtain ⟨_, _, _, _, _, h5⟩ := (gK.2 4 _ rfl).2
    obtain ⟨_, _, _, _, _, h6⟩ := (hK.2 t _ ht).2
    exact Option.some.inj (h5.symm.trans h6)
  subst e1
  exact kk q H1 locs ls (by rw [← hw q]; exact g1) (by rw [← hw q]; exact g2) g3 h4
theorem nB_aast (hF : nF C cc own nL f γ W1 mc ms l) {q0 qk a N t j v ci : Nat} {i : Int32} {r : vw_C} {vs : List Value} {g : Nat → Option Nat} (hd : xI cc pc .aastore 1 pc') (he : ws[q0]? = some (a, .inl (γ.2.1 t, N, .inr (.inr (.inr (.inr g)))))) (ht : (xTy γ)[t]? = some (γ.2.1 t, .object r.1)) (hv : ws[qk]? = some (v, .inr (ci, vs))) (hc : vwCl[ci]? = some r) (hi : vp_in i N) (hij : i.toNatClampNeg = j) (hw : ws.set q0 (a, .inl (γ.2.1 t, N, .inr (.inr (.inr (.inr (va_up g j (some v))))))) = ws') (kk : nB C ws' k n pc' L st) : nB C ws k n pc L (.ref v :: .int i :: .ref a :: st) := by
  subst hw; subst hij
  obtain ⟨⟨p, l', e, s, m, args, below, meth, c⟩, A, nL', f', γ', W1', mc', ms'⟩ := C
  obtain ⟨hx, hb, hml, rfl, rfl, rfl, rfl, rfl, rfl, rfl, hown, hts, hK, hSt, hnx, hA, hrt, hlk, hin⟩ := hF
  obtain ⟨hd, rfl⟩ := hd
  exact fun H locs ls h1 h2 h3 h4 => va_astq hx hb hK h1 h2 h3 q0 t qk ci he ht hv hc hi hd (fun H1 locs1 g1 g2 g3 => kk H1 locs1 ls g1 g2 g3 h4)
theorem nB_ret (hF : nF C cc own nL f γ W1 mc ms l) (α : Nat → Nat) (hd : xI cc pc .return_ 1 pc') (hw : ws = W1 α) (hk : k = mc) (hn2 : n = ms) : nB C ws k n pc L [] := by
  subst hw; subst hk; subst hn2
  obtain ⟨⟨p, l', e, s, m, args, below, meth, c⟩, A, nL', f', γ', W1', mc', ms'⟩ := C
  obtain ⟨hx, hb, hml, rfl, rfl, rfl, rfl, rfl, rfl, rfl, hown, hts, hK, hSt, hnx, hA, hrt, hlk, hin⟩ := hF
  obtain ⟨hd, rfl⟩ := hd
  exact fun H locs ls h1 h2 h3 h4 => W.vret hx hb hrt (fun t ht hW => ⟨⟨α, rfl, by rw [ht]; exact h1, h2⟩, h3.F ht⟩) h3.2.2 hd hlk
theorem arrV_cg {cI : ClassId} {N : Nat} {f g : Nat → Value} (h : ∀ j, j < N → f j = g j) : arrV cI N f = arrV cI N g := by
  have : (fun j : Fin N => f j.val) = (fun j : Fin N => g j.val) := funext fun j => h j.val j.isLt
  unfold arrV
  rw [this]
theorem nB_cv {q0 a N : Nat} {cA : ClassId} {g g' : Nat → Option Nat} (he : ws[q0]? = some (a, .inl (cA, N, .inr (.inr (.inr (.inr g)))))) (hg : ∀ j, j < N → g j = g' j) (hw : ws.set q0 (a, .inl (cA, N, .inr (.inr (.inr (.inr g'))))) = ws') (kk : nB C ws' k n pc L st) : nB C ws k n pc L st := by
  subst hw
  obtain ⟨⟨p, l', e, s, m, args, below, meth, c⟩, A, nL', f', γ', W1', mc', ms'⟩ := C
  intro H locs ls h1 h2 h3 h4
  refine kk H locs ls (h1.set h2 he ?_ (fun _ _ => rfl)) (h2.set he) h3 h4
  have h5 := h1 q0 _ he
  show H[a]? = some (vp_cell _ _)
  rw [vp_cell_q, ← arrV_cg (fun j hj => congrArg va_rf (hg j hj)), ← vp_cell_q]
  exact h5
end XN
/-! rows of rows -/
theorem mk_inner {Q : Addr → Pre} {E : CtlPost} {e : Env} {d : Bool} {acts : List Action} {s : State} {comp c0 : ClassId} {k : Class} (hk : s.vm.classes[comp]? = some k) (hkind : k.kind = .array c0 .int) (hlim : ¬ 96 > e.platform.arrayLengthLimit) (hheap : ¬ 96 * componentBytes .int > e.platform.maxHeapBytes) (h1 : s.heap.size < e.platform.maxCells) (h2 : s.slotsUsed + 96 ≤ e.platform.maxSlots) (hQ : ∀ acts', Q s.heap.size d acts' (s.pushCell (arrV comp 96 (fun _ => .int 0)))) : wp (multianewarray.make comp [96]) Q E e d acts s := by
  have n0 : ¬ (96 : Int32) < 0 := by decide
  have n1 : Int32.toNatClampNeg 96 = 96 := rfl
  have hfit : ∀ i v, (Array.replicate 96 (defaultValue .int))[i]? = some v → s.fitsSlot comp .none i v = true := by
    intro i v hv
    simp only [Array.getElem?_replicate] at hv
    split at hv
    · cases hv; simp [State.fitsSlot, State.slotType?, hk, hkind, defaultValue, fits]
    · cases hv
  simp only [multianewarray.make, wp_bind', W.ite, n0, if_false, wp_pure', W.theClass, hk, Option.some.injEq, exists_eq_left', hkind, n1, Jvm.newArray, Jvm.arrayFits, W.ask, hlim, hheap, W.stop, W.alloc, W.mark]
  rw [if_neg (show ¬ 96 > e.platform.maxSlots by omega)]
  refine ⟨h1, by rw [Array.size_replicate]; exact h2, hfit, ?_⟩
  have := hQ (allocActs (Array.replicate 96 (defaultValue FieldType.int)) (Array.size s.heap) acts)
  rw [← arrV_new] at this
  exact this
theorem multi_cold {Q : Unit → Pre} {E : CtlPost} {e : Env} {d : Bool} {acts : List Action} {s : State} {f : JFrame} {index dims c : Nat} {vm' : Vm} (hs : s.topJava?.isSome) (hg : (Jvm.resolveClass f.method.cls index).Gives e.toSetting s.vm (.ok c) vm') (hr : vm'.classReady f.method.cls index c) (hsz : vm'.classes.size ≤ s.vm.classes.size := by no_record) : wp (multianewarray.sem index dims) Q E e d acts (s.setTop f) ↔ wp (multianewarray.sem index dims) Q E e d acts ((s.setVm vm').setTop f) := by
  simp only [multianewarray.sem, wp_bind']
  exact W.resolveClassAt_transfer (s := s.setTop f) (State.method?_setTop f hs) hg hr
/-- what stands when i of the fourteen rows are made -/
def mkJ (p : Program) (l : Launch) (e : Env) (R : Room) (s : State) (m : MethodId) (args : Array Value) (below : List Frame) (meth : Method) (c : Code) (locs : List Loc) (cells slots : Nat) (H : Heap) (vm1 : Vm) (cA comp : ClassId) (i : Nat) (U : State) : Prop :=
  Stand p l e R s m args below meth c U locs (cells + 1 + i) (slots + 14 + 96 * i) ∧ U.vm = vm1 ∧ U.heap.size = H.size + 1 + i ∧ U.heap[H.size]? = some (arrV cA 14 (fun j => if j < i then .ref (H.size + 1 + j) else .null)) ∧ (∀ j, j < i → U.heap[H.size + 1 + j]? = some (arrV comp 96 (fun _ => .int 0))) ∧ ∀ q, q < H.size → U.heap[q]? = H[q]?
def fillU (T0 : State) (cA comp : ClassId) (h : Nat) : Nat → State
  | 0 => T0.pushCell (arrV cA 14 (fun _ => .null))
  | i + 1 => ((fillU T0 cA comp h i).pushCell (arrV comp 96 (fun _ => .int 0))).setCell h ((arrV cA 14 (fun j => if j < i then .ref (h + 1 + j) else .null)).setSlot i (.ref (h + 1 + i)))
section MUL
variable {p : Program} {l : Launch} {e : Env} {R : Room} {s : State} {m : MethodId} {args : Array Value} {below : List Frame} {meth : Method} {c : Code} {locs : List Loc} {cells slots : Nat} {H : Heap} {vm1 : Vm} {cA comp c0 : ClassId} {kA kC : Class}
theorem mkJ_s {i : Nat} {U : State} (h : mkJ p l e R s m args below meth c locs cells slots H vm1 cA comp i U) (hsz : s.heap.size ≤ H.size) : mkJ p l e R s m args below meth c locs cells slots H vm1 cA comp (i + 1) ((U.pushCell (arrV comp 96 (fun _ => .int 0))).setCell H.size ((arrV cA 14 (fun j => if j < i then .ref (H.size + 1 + j) else .null)).setSlot i (.ref (H.size + 1 + i)))) := by
  obtain ⟨X, h1, h2, h3, h4, h5⟩ := h
  have hlt : H.size < U.heap.size := by omega
  have hc : (U.pushCell (arrV comp 96 (fun _ => .int 0))).heap[H.size]? = some (arrV cA 14 (fun j => if j < i then .ref (H.size + 1 + j) else .null)) := by
    rw [State.heap_pushCell_of_lt (h := hlt)]; exact h3
  have hlt2 : H.size < (U.pushCell (arrV comp 96 (fun _ => .int 0))).heap.size := (Array.getElem?_eq_some_iff.mp hc).1
  have X2 := ((X.pushed (arrV comp 96 (fun _ => .int 0))).stored hc i (.ref (H.size + 1 + i))).forget (fun y hy => by
    rw [List.mem_singleton] at hy
    subst hy
    exact hsz)
  rw [arrV_size] at X2
  have hz : (U.pushCell (arrV comp 96 (fun _ => .int 0))).heap.size = U.heap.size + 1 := by
    show (U.heap.push _).size = _
    rw [Array.size_push]
  refine ⟨by
    have e1 : cells + 1 + (i + 1) = cells + 1 + i + 1 := by omega
    have e2 : slots + 14 + 96 * (i + 1) = slots + 14 + 96 * i + 96 := by omega
    rw [e1, e2]
    exact X2, h1, by rw [size_setCell, hz, h2]; omega, ?_, fun j hj => ?_, fun q hq => ?_⟩
  · rw [heapAt_setCell_self _ hlt2, arrV_store]
    refine congrArg some (arrV_cg (fun j hj => ?_))
    unfold updV
    by_cases q : j = i
    · subst q; rw [if_pos rfl, if_pos (by omega)]
    · rw [if_neg q]
      show (if j < i then Value.ref (H.size + 1 + j) else .null) = _
      by_cases q2 : j < i
      · rw [if_pos q2, if_pos (by omega)]
      · rw [if_neg q2, if_neg (by omega)]
  · rw [heapAt_setCell_ne _ (show H.size ≠ H.size + 1 + j by omega)]
    by_cases q : j = i
    · subst q
      show (U.heap.push _)[_]? = _
      rw [← h2, Array.getElem?_push_size]
    · rw [State.heap_pushCell_of_lt (h := show H.size + 1 + j < U.heap.size by omega)]
      exact h4 j (by omega)
  · rw [heapAt_setCell_ne _ (show H.size ≠ q by omega), State.heap_pushCell_of_lt (h := show q < U.heap.size by omega)]
    exact h5 q hq
theorem W_multi {Q : State → Prop} {cc : ByteArray} (hexec : p.tables.exec = Jvm.exec) (hb : c.code = cc) {own : String} {index : Nat} (hown : s.vm.findClass own = some m.cls) (hclink : (Cond.classLink own index "[[I").before args s = true) (hfA : s.vm.findClass "[[I" = some cA) (hkA : s.vm.classes[cA]? = some kA) (hkindA : kA.kind = .array comp (.array .int)) (hkC : s.vm.classes[comp]? = some kC) (hkindC : kC.kind = .array c0 .int) {pc : Nat} {ls : Array Slot} {rest : List Value} (hdg : decode cc pc = .ok (.multianewarray index 2, 4)) (hcells : cells + 15 ≤ R.cells) (hslots : slots + 1358 ≤ R.slots) (hsz : s.heap.size ≤ H.size)
    (kk : ∀ H1 : Heap, H1.size = H.size + 15 → (∀ q, q < H.size → H1[q]? = H[q]?) → H1[H.size]? = some (arrV cA 14 (fun j => .ref (H.size + 1 + j))) → (∀ j, j < 14 → H1[H.size + 1 + j]? = some (arrV comp 96 (fun _ => .int 0))) → W p l e R s m args below meth c H1 locs (cells + 15) (slots + 1358) Q (F0 m (pc + 4) ls (.ref H.size :: rest))) : W p l e R s m args below meth c H locs cells slots Q (F0 m pc ls (.int 96 :: .int 14 :: rest)) := by
  intro T hT X
  subst hT; subst hb
  have hpl : e.platform.magicAccessors = ({} : Platform).magicAccessors := by rw [X.admits.platform]
  obtain ⟨cc', hfcc, hcl⟩ := Cond.classLink_spec hown hclink e.platform hpl
  cases hfA.symm.trans hfcc
  obtain ⟨hg₁, hwarm₁, hready₁⟩ := State.classEntry (e := e) X.warmed hcl
  generalize T.vm.noted m.cls index (.cls cA) = vm₁ at hg₁ hwarm₁ hready₁
  have hal : s.vm.Alike vm₁ := hwarm₁.alike
  obtain ⟨kA₁, hkA₁, heA⟩ := hal.2.2 _ _ hkA
  obtain ⟨kC₁, hkC₁, heC⟩ := hal.2.2 _ _ hkC
  have hkindA₁ : kA₁.kind = .array comp (.array .int) := by rw [heA]; exact hkindA
  have hkindC₁ : kC₁.kind = .array c0 .int := by rw [heC]; exact hkindC
  obtain ⟨hr1, hr2⟩ := X.roomAbove hcells hslots
  have z1 : ¬ 14 > e.platform.arrayLengthLimit := by rw [Launch.admits_arrayLengthLimit X.admits]; omega
  have z2 : ¬ 96 > e.platform.arrayLengthLimit := by rw [Launch.admits_arrayLengthLimit X.admits]; omega
  have z3 : ¬ 14 * componentBytes (.array .int) > e.platform.maxHeapBytes := by
    rw [Launch.admits_maxHeapBytes X.admits]; show ¬ 14 * 4 > 536870912; omega
  have z4 : ¬ 96 * componentBytes .int > e.platform.maxHeapBytes := by
    rw [Launch.admits_maxHeapBytes X.admits]; show ¬ 96 * 4 > 536870912; omega
  have J0 : mkJ p l e R s m args below meth c locs cells slots T.heap vm₁ cA comp 0 ((T.setVm vm₁).pushCell (arrV cA 14 (fun _ => .null))) := by
    have X2 := (X.noted hwarm₁).pushed (arrV cA 14 (fun _ => .null))
    rw [arrV_size] at X2
    refine ⟨X2, rfl, ?_, ?_, fun j hj => absurd hj (Nat.not_lt_zero _), fun q hq => ?_⟩
    · show (T.heap.push _).size = _
      rw [Array.size_push]
    · show (T.heap.push _)[_]? = _
      rw [Array.getElem?_push_size]
      rfl
    · exact State.heap_pushCell_of_lt (T.setVm vm₁) _ hq
  have fin : ∀ U : State, mkJ p l e R s m args below meth c locs cells slots T.heap vm₁ cA comp 14 U → ∃ t, Steps p.tables e below (U.setTop (F0 m (pc + 4) ls (.ref T.heap.size :: rest))) t ∧ Q t := by
    intro U hU
    obtain ⟨X', h1, h2, h3, h4, h5⟩ := hU
    refine kk U.heap (by omega) h5 ?_ h4 U rfl X'
    rw [h3]
    refine congrArg some (arrV_cg (fun j hj => ?_))
    rw [if_pos hj]
  have JJ : ∀ i, mkJ p l e R s m args below meth c locs cells slots T.heap vm₁ cA comp i (fillU (T.setVm vm₁) cA comp T.heap.size i) := by
    intro i
    induction i with
    | zero => exact J0
    | succ i ih => exact mkJ_s ih hsz
  obtain ⟨t, a1, b1⟩ := fin _ (JJ 14)
  refine ⟨t, ?_, b1⟩
  have hs : (T.setVm vm₁).topJava?.isSome := X.here.top
  have n0 : ¬ (14 : Int32) < 0 := by decide
  have n1 : Int32.toNatClampNeg 14 = 14 := rfl
  have n2 : ((14 : Int32) == 0) = false := rfl
  refine Steps.instr (c := c) (by simpa using X.here) ?_
  rw [show decode c.code (F0 m pc ls (.int 96 :: .int 14 :: rest)).pc = _ from hdg]
  show wpRun (p.tables.exec (.multianewarray index 2)) _ _ e _
  rw [hexec]
  show wpRun (multianewarray.sem index 2) _ _ e _
  unfold wpRun
  rw [multi_cold (s := T) (f := F0 m pc ls (.int 96 :: .int 14 :: rest)) X.here.top hg₁ hready₁]
  simp only [multianewarray.sem, wp_bind', W.resolveClassAt_ready (s := (T.setVm vm₁).setTop (F0 m pc ls (.int 96 :: .int 14 :: rest))) (State.method?_setTop _ hs) hready₁, Jvm.popN, W.pop, State.topJava?_setTop' _ hs, Option.some.injEq, exists_eq_left', List.cons.injEq, exists_cons_eq, State.setTop_setTop, wp_pure', List.mapM_cons, List.mapM_nil, List.nil_append, List.cons_append]
  rw [multianewarray.make]
  simp only [wp_bind', W.ite, n0, if_false, wp_pure', W.theClass, State.vm_setTop, State.vm_setVm, hkA₁, Option.some.injEq, exists_eq_left', hkindA₁, n1, Jvm.newArray, Jvm.arrayFits, W.ask, z1, z3, W.stop, W.alloc, W.mark, n2, Std.Legacy.Range.forIn_eq_forIn_range']
  have hfit : ∀ i v, (Array.replicate 14 Value.null)[i]? = some v → ((T.setVm vm₁).setTop (F0 m pc ls rest)).fitsSlot cA .none i v = true := by
    intro i v hv
    simp only [Array.getElem?_replicate] at hv
    split at hv
    · cases hv; simp [State.fitsSlot, State.slotType?, hkA₁, hkindA₁, fits]
    · cases hv
  rw [if_neg (show ¬ 14 > e.platform.maxSlots by omega)]
  refine ⟨by show T.heap.size < _; omega, by rw [Array.size_replicate]; show T.slotsUsed + 14 ≤ _; omega, hfit, ?_⟩
  rw [if_neg (show ¬ false = true by decide)]
  refine wp_forIn_inv (fun r S => ∃ i, i ≤ 14 ∧ r = List.range' i (14 - i) ∧ S = (fillU (T.setVm vm₁) cA comp T.heap.size i).setTop (F0 m pc ls rest)) _ _ ⟨0, by omega, rfl, ?_⟩ ?_ ?_
  · rw [State.pushCell_setTop, arrV_new]
    rfl
  · rintro x r s' d' acts' Q' ⟨i, hi, he, rfl⟩ hq
    have hi' : i < 14 := Nat.lt_of_not_le (fun z => by
      rw [show 14 - i = 0 by omega] at he
      cases he)
    rw [show 14 - i = (14 - (i + 1)) + 1 by omega, List.range'_succ] at he
    obtain ⟨rfl, rfl⟩ := List.cons.inj he
    obtain ⟨X', v1, v2, v3, v4, v5⟩ := JJ x
    obtain ⟨r1, r2⟩ := X'.roomAbove (a := 1) (b := 96) (by omega) (by omega)
    simp only [wp_bind']
    refine mk_inner (k := kC₁) (c0 := c0) (by show (fillU (T.setVm vm₁) cA comp T.heap.size x).vm.classes[comp]? = _; rw [v1]; exact hkC₁) hkindC₁ z2 z4 (by show (fillU (T.setVm vm₁) cA comp T.heap.size x).heap.size < _; omega) (by show (fillU (T.setVm vm₁) cA comp T.heap.size x).slotsUsed + 96 ≤ _; exact r2) (fun acts'' => ?_)
    simp only [wp_bind', W.writeLoc, wp_pure']
    refine ⟨arrV cA 14 (fun j => if j < x then .ref (T.heap.size + 1 + j) else .null), ?_, (fun q => by cases q), by rw [arrV_size]; exact hi', ?_, hq _ _ _ ⟨x + 1, by omega, rfl, ?_⟩⟩
    · show ((fillU (T.setVm vm₁) cA comp T.heap.size x).pushCell (arrV comp 96 (fun _ => .int 0))).heap[T.heap.size]? = _
      rw [State.heap_pushCell_of_lt (h := show T.heap.size < (fillU (T.setVm vm₁) cA comp T.heap.size x).heap.size by omega)]
      exact v3
    · have hkv : (fillU (T.setVm vm₁) cA comp T.heap.size x).vm.classes[cA]? = some kA₁ := by rw [v1]; exact hkA₁
      simp [State.fitsSlot, State.slotType?, hkv, hkindA₁, fits, arrV]
    · show _ = (fillU (T.setVm vm₁) cA comp T.heap.size (x + 1)).setTop _
      rw [fillU, ← v2]
      rfl
  · rintro s' d' acts' ⟨i, hi, he, rfl⟩
    have hi' : i = 14 := by
      by_cases z : i = 14
      · exact z
      · rw [show 14 - i = (14 - (i + 1)) + 1 by omega, List.range'_succ] at he
        cases he
    subst hi'
    have htop : (fillU (T.setVm vm₁) cA comp T.heap.size 14).topJava?.isSome := (JJ 14).1.here.top
    simp only [wp_pure', wp_bind', W.mark, W.pushRef, State.topJava?_setTop' _ htop, Option.some.injEq, exists_eq_left', State.setTop_setTop]
    intro acts''
    rw [afterInstr_ok]
    exact a1
end MUL
theorem nB_multi {C : nCx} {cc : ByteArray} {nL f : Nat} {γ : xG} {W1 : (Nat → Nat) → va_W} {mc ms : Nat} {l : Launch} {ws : va_W} {k n k' n' pc pc' : Nat} {L : List (Option Value)} {st : List Value} {wf : Nat → va_W} (hF : nF C cc RX0 nL f γ W1 mc ms l) (hd : xI cc pc (.multianewarray 21 2) 4 pc') (hcl : Cond.classLink RX0 21 "[[I" ∈ xWS) (hk : k + 15 = k') (hn2 : n + 1358 = n') (hkc : Nat.ble k' mc = true) (hks : Nat.ble n' ms = true)
    (hw : ∀ q, ws ++ ((q, .inl (γ.2.1 1, 14, .inr (.inr (.inr (.inr (fun i => some (q + 1 + i))))))) :: (List.range 14).map (fun i => (q + (i + 1), zA γ 96))) = wf q) (kk : ∀ q, nB C (wf q) k' n' pc' L (.ref q :: st)) : nB C ws k n pc L (.int 96 :: .int 14 :: st) := by
  subst hk; subst hn2
  obtain ⟨⟨p, l', e, s, m, args, below, meth, c⟩, A, nL', f', γ', W1', mc', ms'⟩ := C
  obtain ⟨hx, hb, hml, rfl, rfl, rfl, rfl, rfl, rfl, rfl, hown, hts, hK, hSt, hnx, hA, hrt, hlk, hin⟩ := hF
  obtain ⟨hd, rfl⟩ := hd
  obtain ⟨-, -, ⟨kA, a1, a2⟩, ⟨kC, c0, b1, b2⟩⟩ := hnx
  have hfA : s.vm.findClass "[[I" = some (γ'.2.1 1) := (hK.2 1 _ rfl).2
  intro H locs ls h1 h2 h3 h4
  refine W_multi hx hb hown (hts _ hcl) hfA a1 a2 b1 b2 hd (Nat.le_of_ble_eq_true hkc) (Nat.le_of_ble_eq_true hks) h3.1 (fun H1 z1 o1 e0 e1 => ?_)
  have hold : ∀ (i : Nat) (x : Nat × va_E), ws[i]? = some x → H1[x.1]? = H[x.1]? := fun i x hx => o1 x.1 ((h1 i x hx).lt)
  have cell : ∀ (i : Nat) (x : Nat × va_E), ((H.size, (.inl (γ'.2.1 1, 14, .inr (.inr (.inr (.inr (fun i => some (H.size + 1 + i)))))) : va_E)) :: (List.range 14).map (fun i => (H.size + (i + 1), zA γ' 96)))[i]? = some x → x.1 = H.size + i ∧ va_at γ'.1 vwCl x H1 := by
    intro i x hx
    match i, hx with
    | 0, hx =>
      cases hx
      refine ⟨rfl, ?_⟩
      show H1[H.size]? = some (vp_cell _ _)
      rw [vp_cell_q]
      exact e0
    | i + 1, hx =>
      rw [List.getElem?_cons_succ, List.getElem?_map] at hx
      obtain ⟨j, hj, rfl⟩ := Option.map_eq_some_iff.mp hx
      have hj2 := List.getElem?_eq_some_iff.mp hj
      obtain ⟨hlt, hv⟩ := hj2
      rw [List.length_range] at hlt
      rw [List.getElem_range] at hv
      subst hv
      refine ⟨rfl, ?_⟩
      show H1[H.size + (i + 1)]? = some (vp_cell _ _)
      rw [vp_cell_i, show H.size + (i + 1) = H.size + 1 + i by omega]
      exact e1 i hlt
  refine kk H.size H1 locs ls ?_ ?_ ⟨by have := h3.1; omega, fun x g1 g2 => (o1 x (Nat.lt_of_lt_of_le g1 h3.1)).trans (h3.2.1 x g1 g2), h3.2.2⟩ h4
  · rw [← hw]
    exact (h1.kept hold).app (fun i x hx => (cell i x hx).2)
  · rw [← hw]
    refine h2.app ⟨fun i j a b ha hb hab => ?_, fun i x hx => hA x.1 ?_⟩ (fun i j a b ha hb hab => ?_)
    · have q1 := (cell i a ha).1
      have q2 := (cell j b hb).1
      omega
    · have q1 := (cell i x hx).1
      have := h3.1
      omega
    · have q1 := (h1 i a ha).lt
      have q2 := (cell j b hb).1
      omega
theorem dfX0 : ∀ j, j < 5 → defaultValue (tyX0 j) = vp_V [.null, .null, .null, .null, .null] j := by
  intro j hj
  match j, hj with
  | 0, _ => rfl
  | 1, _ => rfl
  | 2, _ => rfl
  | 3, _ => rfl
  | 4, _ => rfl
theorem dfX1 : ∀ j, j < 3 → defaultValue (tyX1 j) = vp_V [.null, .null, .null] j := by
  intro j hj
  match j, hj with
  | 0, _ => rfl
  | 1, _ => rfl
  | 2, _ => rfl
theorem dfX2 : ∀ j, j < 10 → defaultValue (tyX2 j) = vp_V [.null, .null, .int 0, .int 0, .int 0, .int 0, .int 0, .int 0, .int 0, .int 0] j := by
  intro j hj
  match j, hj with
  | 0, _ => rfl
  | 1, _ => rfl
  | 2, _ => rfl
  | 3, _ => rfl
  | 4, _ => rfl
  | 5, _ => rfl
  | 6, _ => rfl
  | 7, _ => rfl
  | 8, _ => rfl
  | 9, _ => rfl
theorem dfX3 : ∀ j, j < 3 → defaultValue (tyX3 j) = vp_V [.null, .int 0, .int 0] j := by
  intro j hj
  match j, hj with
  | 0, _ => rfl
  | 1, _ => rfl
  | 2, _ => rfl
theorem dfX4 : ∀ j, j < 5 → defaultValue (tyX4 j) = vp_V [.null, .int 0, .int 0, .int 0, .int 0] j := by
  intro j hj
  match j, hj with
  | 0, _ => rfl
  | 1, _ => rfl
  | 2, _ => rfl
  | 3, _ => rfl
  | 4, _ => rfl
theorem dfX5 : ∀ j, j < 16 → defaultValue (tyX5 j) = vp_V [.null, .null, .null, .null, .null, .null, .null, .null, .null, .null, .int 0, .int 0, .int 0, .int 0, .int 0, .int 0] j := by
  intro j hj
  match j, hj with
  | 0, _ => rfl
  | 1, _ => rfl
  | 2, _ => rfl
  | 3, _ => rfl
  | 4, _ => rfl
  | 5, _ => rfl
  | 6, _ => rfl
  | 7, _ => rfl
  | 8, _ => rfl
  | 9, _ => rfl
  | 10, _ => rfl
  | 11, _ => rfl
  | 12, _ => rfl
  | 13, _ => rfl
  | 14, _ => rfl
  | 15, _ => rfl
  | j + 16, hj => exact absurd hj (by omega)
theorem dfX6 : ∀ j, j < 12 → defaultValue (tyX6 j) = vp_V [.null, .null, .null, .null, .null, .null, .null, .null, .null, .null, .int 0, .int 0] j := by
  intro j hj
  match j, hj with
  | 0, _ => rfl
  | 1, _ => rfl
  | 2, _ => rfl
  | 3, _ => rfl
  | 4, _ => rfl
  | 5, _ => rfl
  | 6, _ => rfl
  | 7, _ => rfl
  | 8, _ => rfl
  | 9, _ => rfl
  | 10, _ => rfl
  | 11, _ => rfl
theorem dfX7 : ∀ j, j < 32 → defaultValue (tyX7 j) = vp_V [.null, .null, .null, .int 0, .null, .null, .null, .null, .null, .null, .null, .null, .null, .null, .null, .int 0, .int 0, .int 0, .int 0, .int 0, .int 0, .int 0, .int 0, .int 0, .int 0, .int 0, .null, .null, .null, .null, .int 0, .null] j := by
  intro j hj
  match j, hj with
  | 0, _ => rfl
  | 1, _ => rfl
  | 2, _ => rfl
  | 3, _ => rfl
  | 4, _ => rfl
  | 5, _ => rfl
  | 6, _ => rfl
  | 7, _ => rfl
  | 8, _ => rfl
  | 9, _ => rfl
  | 10, _ => rfl
  | 11, _ => rfl
  | 12, _ => rfl
  | 13, _ => rfl
  | 14, _ => rfl
  | 15, _ => rfl
  | 16, _ => rfl
  | 17, _ => rfl
  | 18, _ => rfl
  | 19, _ => rfl
  | 20, _ => rfl
  | 21, _ => rfl
  | 22, _ => rfl
  | 23, _ => rfl
  | 24, _ => rfl
  | 25, _ => rfl
  | 26, _ => rfl
  | 27, _ => rfl
  | 28, _ => rfl
  | 29, _ => rfl
  | 30, _ => rfl
  | 31, _ => rfl
  | j + 32, hj => exact absurd hj (by omega)
theorem w_arrI : Cond.arrayClass .int ∈ xWS := xWS_mem 116 (by decide +kernel) rfl
theorem w_mcl : Cond.classLink RX0 21 "[[I" ∈ xWS := xWS_mem 96 (by decide +kernel) rfl
theorem ks_128 : (Int16.ofInt (128)).toInt32 = (128) := by decide
theorem ks_3078 : (Int16.ofInt (3078)).toInt32 = (3078) := by decide
theorem nl_X0_15 : nFP RX0 15 0 1 (.array .int) true := ⟨_, tyX0, rfl, inX0, rfl, xWS_mem 100 (by decide +kernel) rfl, tyX0_ok, nmX0, rfl, rfl, rfl⟩
theorem nl_X0_18 : nFP RX0 18 0 2 (.array .int) true := ⟨_, tyX0, rfl, inX0, rfl, xWS_mem 102 (by decide +kernel) rfl, tyX0_ok, nmX0, rfl, rfl, rfl⟩
theorem nl_X0_23 : nFP RX0 23 0 3 (.array (.array .int)) true := ⟨_, tyX0, rfl, inX0, rfl, xWS_mem 103 (by decide +kernel) rfl, tyX0_ok, nmX0, rfl, rfl, rfl⟩
theorem nl_X0_26 : nFP RX0 26 0 4 (.array .int) true := ⟨_, tyX0, rfl, inX0, rfl, xWS_mem 104 (by decide +kernel) rfl, tyX0_ok, nmX0, rfl, rfl, rfl⟩
theorem nl_X0_9 : nFP RX0 9 0 0 (.array .int) true := ⟨_, tyX0, rfl, inX0, rfl, xWS_mem 98 (by decide +kernel) rfl, tyX0_ok, nmX0, rfl, rfl, rfl⟩
theorem nl_X1_15 : nFP RX1 15 1 1 (.array .int) true := ⟨_, tyX1, rfl, inX1, rfl, xWS_mem 244 (by decide +kernel) rfl, tyX1_ok, nmX1, rfl, rfl, rfl⟩
theorem nl_X1_18 : nFP RX1 18 1 2 (.array .int) true := ⟨_, tyX1, rfl, inX1, rfl, xWS_mem 246 (by decide +kernel) rfl, tyX1_ok, nmX1, rfl, rfl, rfl⟩
theorem nl_X1_9 : nFP RX1 9 1 0 (.array .int) true := ⟨_, tyX1, rfl, inX1, rfl, xWS_mem 242 (by decide +kernel) rfl, tyX1_ok, nmX1, rfl, rfl, rfl⟩
theorem nl_X2_15 : nFP RX2 15 2 1 (.array .int) true := ⟨_, tyX2, rfl, inX2, rfl, xWS_mem 124 (by decide +kernel) rfl, tyX2_ok, nmX2, rfl, rfl, rfl⟩
theorem nl_X2_9 : nFP RX2 9 2 0 (.array .int) true := ⟨_, tyX2, rfl, inX2, rfl, xWS_mem 123 (by decide +kernel) rfl, tyX2_ok, nmX2, rfl, rfl, rfl⟩
theorem nl_X3_15 : nFP RX3 15 3 1 .int false := ⟨_, tyX3, rfl, inX3, rfl, xWS_mem 263 (by decide +kernel) rfl, tyX3_ok, nmX3, rfl, rfl, rfl⟩
theorem nl_X3_9 : nFP RX3 9 3 0 (.array .int) true := ⟨_, tyX3, rfl, inX3, rfl, xWS_mem 261 (by decide +kernel) rfl, tyX3_ok, nmX3, rfl, rfl, rfl⟩
theorem nl_X4_12 : nFP RX4 12 4 0 (.object "DayMarket$Row") true := ⟨_, tyX4, rfl, inX4, rfl, xWS_mem 283 (by decide +kernel) rfl, tyX4_ok, nmX4, rfl, rfl, rfl⟩
theorem nl_X4_18 : nFP RX4 18 4 1 .int false := ⟨_, tyX4, rfl, inX4, rfl, xWS_mem 285 (by decide +kernel) rfl, tyX4_ok, nmX4, rfl, rfl, rfl⟩
theorem nl_X5_15 : nFP RX5 15 5 2 (.array .int) true := ⟨_, tyX5, rfl, inX5, rfl, xWS_mem 170 (by decide +kernel) rfl, tyX5_ok, nmX5, rfl, rfl, rfl⟩
theorem nl_X5_18 : nFP RX5 18 5 3 (.array .int) true := ⟨_, tyX5, rfl, inX5, rfl, xWS_mem 173 (by decide +kernel) rfl, tyX5_ok, nmX5, rfl, rfl, rfl⟩
theorem nl_X5_21 : nFP RX5 21 5 4 (.array .int) true := ⟨_, tyX5, rfl, inX5, rfl, xWS_mem 176 (by decide +kernel) rfl, tyX5_ok, nmX5, rfl, rfl, rfl⟩
theorem nl_X5_24 : nFP RX5 24 5 5 (.array .int) true := ⟨_, tyX5, rfl, inX5, rfl, xWS_mem 178 (by decide +kernel) rfl, tyX5_ok, nmX5, rfl, rfl, rfl⟩
theorem nl_X5_27 : nFP RX5 27 5 6 (.array .int) true := ⟨_, tyX5, rfl, inX5, rfl, xWS_mem 181 (by decide +kernel) rfl, tyX5_ok, nmX5, rfl, rfl, rfl⟩
theorem nl_X5_30 : nFP RX5 30 5 7 (.array .int) true := ⟨_, tyX5, rfl, inX5, rfl, xWS_mem 183 (by decide +kernel) rfl, tyX5_ok, nmX5, rfl, rfl, rfl⟩
theorem nl_X5_33 : nFP RX5 33 5 8 (.array .int) true := ⟨_, tyX5, rfl, inX5, rfl, xWS_mem 185 (by decide +kernel) rfl, tyX5_ok, nmX5, rfl, rfl, rfl⟩
theorem nl_X5_36 : nFP RX5 36 5 9 (.array .int) true := ⟨_, tyX5, rfl, inX5, rfl, xWS_mem 188 (by decide +kernel) rfl, tyX5_ok, nmX5, rfl, rfl, rfl⟩
theorem nl_X5_39 : nFP RX5 39 5 0 (.object "DayMarket$Laws") true := ⟨_, tyX5, rfl, inX5, rfl, xWS_mem 167 (by decide +kernel) rfl, tyX5_ok, nmX5, rfl, rfl, rfl⟩
theorem nl_X5_43 : nFP RX5 43 5 15 .int false := ⟨_, tyX5, rfl, inX5, rfl, xWS_mem 201 (by decide +kernel) rfl, tyX5_ok, nmX5, rfl, rfl, rfl⟩
theorem nl_X5_9 : nFP RX5 9 5 1 (.array .int) true := ⟨_, tyX5, rfl, inX5, rfl, xWS_mem 168 (by decide +kernel) rfl, tyX5_ok, nmX5, rfl, rfl, rfl⟩
theorem nl_X6_10 : nFP RX6 10 6 0 (.object "DayMarket$Laws") true := ⟨_, tyX6, rfl, inX6, rfl, xWS_mem 301 (by decide +kernel) rfl, tyX6_ok, nmX6, rfl, rfl, rfl⟩
theorem nl_X6_19 : nFP RX6 19 6 1 (.object "DayMarket$Reader") true := ⟨_, tyX6, rfl, inX6, rfl, xWS_mem 302 (by decide +kernel) rfl, tyX6_ok, nmX6, rfl, rfl, rfl⟩
theorem nl_X6_28 : nFP RX6 28 6 2 (.object "DayMarket$World") true := ⟨_, tyX6, rfl, inX6, rfl, xWS_mem 303 (by decide +kernel) rfl, tyX6_ok, nmX6, rfl, rfl, rfl⟩
theorem nl_X6_32 : nFP RX6 32 6 3 (.object "DayMarket$World") true := ⟨_, tyX6, rfl, inX6, rfl, xWS_mem 304 (by decide +kernel) rfl, tyX6_ok, nmX6, rfl, rfl, rfl⟩
theorem nl_X6_35 : nFP RX6 35 6 4 (.object "DayMarket$World") true := ⟨_, tyX6, rfl, inX6, rfl, xWS_mem 305 (by decide +kernel) rfl, tyX6_ok, nmX6, rfl, rfl, rfl⟩
theorem nl_X6_41 : nFP RX6 41 6 5 (.object "DayMarket$Life") true := ⟨_, tyX6, rfl, inX6, rfl, xWS_mem 306 (by decide +kernel) rfl, tyX6_ok, nmX6, rfl, rfl, rfl⟩
theorem nl_X6_45 : nFP RX6 45 6 6 (.array .int) true := ⟨_, tyX6, rfl, inX6, rfl, xWS_mem 307 (by decide +kernel) rfl, tyX6_ok, nmX6, rfl, rfl, rfl⟩
theorem nl_X6_51 : nFP RX6 51 6 7 (.array (.object "DayMarket$Row")) true := ⟨_, tyX6, rfl, inX6, rfl, xWS_mem 308 (by decide +kernel) rfl, tyX6_ok, nmX6, rfl, rfl, rfl⟩
theorem nl_X6_58 : nFP RX6 58 6 8 (.array (.object "DayMarket$Slot")) true := ⟨_, tyX6, rfl, inX6, rfl, xWS_mem 309 (by decide +kernel) rfl, tyX6_ok, nmX6, rfl, rfl, rfl⟩
theorem nl_X6_63 : nFP RX6 63 6 9 (.array .int) true := ⟨_, tyX6, rfl, inX6, rfl, xWS_mem 310 (by decide +kernel) rfl, tyX6_ok, nmX6, rfl, rfl, rfl⟩
theorem nl_X6_66 : nFP RX6 66 6 10 .int false := ⟨_, tyX6, rfl, inX6, rfl, xWS_mem 311 (by decide +kernel) rfl, tyX6_ok, nmX6, rfl, rfl, rfl⟩
theorem nl_X6_70 : nFP RX6 70 6 11 .boolean false := ⟨_, tyX6, rfl, inX6, rfl, xWS_mem 312 (by decide +kernel) rfl, tyX6_ok, nmX6, rfl, rfl, rfl⟩
theorem nl_X7_13 : nFP RX7 13 7 1 (.array .int) true := ⟨_, tyX7, rfl, inX7, rfl, xWS_mem 924 (by decide +kernel) rfl, tyX7_ok, nmX7, rfl, rfl, rfl⟩
theorem nl_X7_16 : nFP RX7 16 7 2 (.array .int) true := ⟨_, tyX7, rfl, inX7, rfl, xWS_mem 925 (by decide +kernel) rfl, tyX7_ok, nmX7, rfl, rfl, rfl⟩
theorem nl_X7_19 : nFP RX7 19 7 4 (.array .int) true := ⟨_, tyX7, rfl, inX7, rfl, xWS_mem 927 (by decide +kernel) rfl, tyX7_ok, nmX7, rfl, rfl, rfl⟩
theorem nl_X7_22 : nFP RX7 22 7 5 (.array .int) true := ⟨_, tyX7, rfl, inX7, rfl, xWS_mem 928 (by decide +kernel) rfl, tyX7_ok, nmX7, rfl, rfl, rfl⟩
theorem nl_X7_25 : nFP RX7 25 7 6 (.array .int) true := ⟨_, tyX7, rfl, inX7, rfl, xWS_mem 929 (by decide +kernel) rfl, tyX7_ok, nmX7, rfl, rfl, rfl⟩
theorem nl_X7_28 : nFP RX7 28 7 7 (.array .int) true := ⟨_, tyX7, rfl, inX7, rfl, xWS_mem 930 (by decide +kernel) rfl, tyX7_ok, nmX7, rfl, rfl, rfl⟩
theorem nl_X7_31 : nFP RX7 31 7 8 (.array .int) true := ⟨_, tyX7, rfl, inX7, rfl, xWS_mem 931 (by decide +kernel) rfl, tyX7_ok, nmX7, rfl, rfl, rfl⟩
theorem nl_X7_34 : nFP RX7 34 7 9 (.array .int) true := ⟨_, tyX7, rfl, inX7, rfl, xWS_mem 932 (by decide +kernel) rfl, tyX7_ok, nmX7, rfl, rfl, rfl⟩
theorem nl_X7_37 : nFP RX7 37 7 10 (.array .int) true := ⟨_, tyX7, rfl, inX7, rfl, xWS_mem 933 (by decide +kernel) rfl, tyX7_ok, nmX7, rfl, rfl, rfl⟩
theorem nl_X7_40 : nFP RX7 40 7 11 (.array .int) true := ⟨_, tyX7, rfl, inX7, rfl, xWS_mem 934 (by decide +kernel) rfl, tyX7_ok, nmX7, rfl, rfl, rfl⟩
theorem nl_X7_43 : nFP RX7 43 7 12 (.array .int) true := ⟨_, tyX7, rfl, inX7, rfl, xWS_mem 935 (by decide +kernel) rfl, tyX7_ok, nmX7, rfl, rfl, rfl⟩
theorem nl_X7_46 : nFP RX7 46 7 13 (.array .int) true := ⟨_, tyX7, rfl, inX7, rfl, xWS_mem 936 (by decide +kernel) rfl, tyX7_ok, nmX7, rfl, rfl, rfl⟩
theorem nl_X7_49 : nFP RX7 49 7 14 (.array .int) true := ⟨_, tyX7, rfl, inX7, rfl, xWS_mem 937 (by decide +kernel) rfl, tyX7_ok, nmX7, rfl, rfl, rfl⟩
theorem nl_X7_52 : nFP RX7 52 7 26 (.array .int) true := ⟨_, tyX7, rfl, inX7, rfl, xWS_mem 949 (by decide +kernel) rfl, tyX7_ok, nmX7, rfl, rfl, rfl⟩
theorem nl_X7_55 : nFP RX7 55 7 27 (.array .int) true := ⟨_, tyX7, rfl, inX7, rfl, xWS_mem 950 (by decide +kernel) rfl, tyX7_ok, nmX7, rfl, rfl, rfl⟩
theorem nl_X7_58 : nFP RX7 58 7 28 (.array .int) true := ⟨_, tyX7, rfl, inX7, rfl, xWS_mem 951 (by decide +kernel) rfl, tyX7_ok, nmX7, rfl, rfl, rfl⟩
theorem nl_X7_61 : nFP RX7 61 7 29 (.array .int) true := ⟨_, tyX7, rfl, inX7, rfl, xWS_mem 952 (by decide +kernel) rfl, tyX7_ok, nmX7, rfl, rfl, rfl⟩
theorem nl_X7_64 : nFP RX7 64 7 31 (.array .int) true := ⟨_, tyX7, rfl, inX7, rfl, xWS_mem 954 (by decide +kernel) rfl, tyX7_ok, nmX7, rfl, rfl, rfl⟩
theorem nl_X7_7 : nFP RX7 7 7 0 (.array .int) true := ⟨_, tyX7, rfl, inX7, rfl, xWS_mem 923 (by decide +kernel) rfl, tyX7_ok, nmX7, rfl, rfl, rfl⟩
theorem cl2_X6_49 : Cond.classLink RX6 49 "DayMarket$Row" ∈ xWS := xWS_mem 254 (by decide +kernel) rfl
theorem cl2_X6_56 : Cond.classLink RX6 56 "DayMarket$Slot" ∈ xWS := xWS_mem 274 (by decide +kernel) rfl
theorem ni_X4_11 : Cond.instanceMethod yX3_init ∈ xWS ∧ Cond.initialized yX3_init.cls ∈ xWS ∧ Cond.code yX3_init cX3_init 1 none ∈ xWS ∧ Nat.ble 1 29 = true ∧ yX3_init.cls ≠ "java/lang/invoke/MethodHandle" ∧ yX3_init.cls ≠ "java/lang/invoke/VarHandle" ∧ (parseMethodDescriptor yX3_init.desc).map (fun d => d.parameters.length) = some 0 := ⟨xWS_mem 258 (by decide +kernel) rfl, xWS_mem 71 (by decide +kernel) rfl, xWS_mem 259 (by decide +kernel) rfl, rfl, by decide, by decide, by decide +kernel⟩
theorem ni_X6_18 : Cond.instanceMethod yX2_init ∈ xWS ∧ Cond.initialized yX2_init.cls ∈ xWS ∧ Cond.code yX2_init cX2_init 1 none ∈ xWS ∧ Nat.ble 1 29 = true ∧ yX2_init.cls ≠ "java/lang/invoke/MethodHandle" ∧ yX2_init.cls ≠ "java/lang/invoke/VarHandle" ∧ (parseMethodDescriptor yX2_init.desc).map (fun d => d.parameters.length) = some 0 := ⟨xWS_mem 120 (by decide +kernel) rfl, xWS_mem 68 (by decide +kernel) rfl, xWS_mem 121 (by decide +kernel) rfl, rfl, by decide, by decide, by decide +kernel⟩
theorem ni_X6_25 : Cond.instanceMethod yX5_init ∈ xWS ∧ Cond.initialized yX5_init.cls ∈ xWS ∧ Cond.code yX5_init cX5_init 3 none ∈ xWS ∧ Nat.ble 3 29 = true ∧ yX5_init.cls ≠ "java/lang/invoke/MethodHandle" ∧ yX5_init.cls ≠ "java/lang/invoke/VarHandle" ∧ (parseMethodDescriptor yX5_init.desc).map (fun d => d.parameters.length) = some 1 := ⟨xWS_mem 164 (by decide +kernel) rfl, xWS_mem 69 (by decide +kernel) rfl, xWS_mem 165 (by decide +kernel) rfl, rfl, by decide, by decide, by decide +kernel⟩
theorem ni_X6_40 : Cond.instanceMethod yX1_init ∈ xWS ∧ Cond.initialized yX1_init.cls ∈ xWS ∧ Cond.code yX1_init cX1_init 1 none ∈ xWS ∧ Nat.ble 1 29 = true ∧ yX1_init.cls ≠ "java/lang/invoke/MethodHandle" ∧ yX1_init.cls ≠ "java/lang/invoke/VarHandle" ∧ (parseMethodDescriptor yX1_init.desc).map (fun d => d.parameters.length) = some 0 := ⟨xWS_mem 239 (by decide +kernel) rfl, xWS_mem 70 (by decide +kernel) rfl, xWS_mem 240 (by decide +kernel) rfl, rfl, by decide, by decide, by decide +kernel⟩
theorem ni_X6_55 : Cond.instanceMethod yX3_init ∈ xWS ∧ Cond.initialized yX3_init.cls ∈ xWS ∧ Cond.code yX3_init cX3_init 1 none ∈ xWS ∧ Nat.ble 1 29 = true ∧ yX3_init.cls ≠ "java/lang/invoke/MethodHandle" ∧ yX3_init.cls ≠ "java/lang/invoke/VarHandle" ∧ (parseMethodDescriptor yX3_init.desc).map (fun d => d.parameters.length) = some 0 := ⟨xWS_mem 258 (by decide +kernel) rfl, xWS_mem 71 (by decide +kernel) rfl, xWS_mem 259 (by decide +kernel) rfl, rfl, by decide, by decide, by decide +kernel⟩
theorem ni_X6_62 : Cond.instanceMethod yX4_init ∈ xWS ∧ Cond.initialized yX4_init.cls ∈ xWS ∧ Cond.code yX4_init cX4_init 1 none ∈ xWS ∧ Nat.ble 1 29 = true ∧ yX4_init.cls ≠ "java/lang/invoke/MethodHandle" ∧ yX4_init.cls ≠ "java/lang/invoke/VarHandle" ∧ (parseMethodDescriptor yX4_init.desc).map (fun d => d.parameters.length) = some 0 := ⟨xWS_mem 278 (by decide +kernel) rfl, xWS_mem 72 (by decide +kernel) rfl, xWS_mem 279 (by decide +kernel) rfl, rfl, by decide, by decide, by decide +kernel⟩
theorem ni_X6_9 : Cond.instanceMethod yX0_init ∈ xWS ∧ Cond.initialized yX0_init.cls ∈ xWS ∧ Cond.code yX0_init cX0_init 1 none ∈ xWS ∧ Nat.ble 1 29 = true ∧ yX0_init.cls ≠ "java/lang/invoke/MethodHandle" ∧ yX0_init.cls ≠ "java/lang/invoke/VarHandle" ∧ (parseMethodDescriptor yX0_init.desc).map (fun d => d.parameters.length) = some 0 := ⟨xWS_mem 93 (by decide +kernel) rfl, xWS_mem 67 (by decide +kernel) rfl, xWS_mem 94 (by decide +kernel) rfl, rfl, by decide, by decide, by decide +kernel⟩
theorem nw_X4_9 : Cond.classLink RX4 9 RX3 ∈ xWS ∧ Cond.instantiable RX3 3 ∈ xWS ∧ Cond.initialized RX3 ∈ xWS := ⟨xWS_mem 281 (by decide +kernel) rfl, xWS_mem 256 (by decide +kernel) rfl, xWS_mem 71 (by decide +kernel) rfl⟩
theorem nw_X6_16 : Cond.classLink RX6 16 RX2 ∈ xWS ∧ Cond.instantiable RX2 10 ∈ xWS ∧ Cond.initialized RX2 ∈ xWS := ⟨xWS_mem 117 (by decide +kernel) rfl, xWS_mem 118 (by decide +kernel) rfl, xWS_mem 68 (by decide +kernel) rfl⟩
theorem nw_X6_23 : Cond.classLink RX6 23 RX5 ∈ xWS ∧ Cond.instantiable RX5 16 ∈ xWS ∧ Cond.initialized RX5 ∈ xWS := ⟨xWS_mem 161 (by decide +kernel) rfl, xWS_mem 162 (by decide +kernel) rfl, xWS_mem 69 (by decide +kernel) rfl⟩
theorem nw_X6_38 : Cond.classLink RX6 38 RX1 ∈ xWS ∧ Cond.instantiable RX1 3 ∈ xWS ∧ Cond.initialized RX1 ∈ xWS := ⟨xWS_mem 236 (by decide +kernel) rfl, xWS_mem 237 (by decide +kernel) rfl, xWS_mem 70 (by decide +kernel) rfl⟩
theorem nw_X6_49 : Cond.classLink RX6 49 RX3 ∈ xWS ∧ Cond.instantiable RX3 3 ∈ xWS ∧ Cond.initialized RX3 ∈ xWS := ⟨xWS_mem 254 (by decide +kernel) rfl, xWS_mem 256 (by decide +kernel) rfl, xWS_mem 71 (by decide +kernel) rfl⟩
theorem nw_X6_56 : Cond.classLink RX6 56 RX4 ∈ xWS ∧ Cond.instantiable RX4 5 ∈ xWS ∧ Cond.initialized RX4 ∈ xWS := ⟨xWS_mem 274 (by decide +kernel) rfl, xWS_mem 276 (by decide +kernel) rfl, xWS_mem 72 (by decide +kernel) rfl⟩
theorem nw_X6_7 : Cond.classLink RX6 7 RX0 ∈ xWS ∧ Cond.instantiable RX0 5 ∈ xWS ∧ Cond.initialized RX0 ∈ xWS := ⟨xWS_mem 90 (by decide +kernel) rfl, xWS_mem 91 (by decide +kernel) rfl, xWS_mem 67 (by decide +kernel) rfl⟩
theorem oi_X0 : Cond.methodLink RX0 3 objectInit ∈ xWS ∧ Cond.instanceMethod objectInit ∈ xWS ∧ Cond.code objectInit ⟨#[0xb1]⟩ 1 none ∈ xWS := ⟨xWS_mem 95 (by decide +kernel) rfl, xWS_mem 88 (by decide +kernel) rfl, xWS_mem 89 (by decide +kernel) rfl⟩
theorem oi_X1 : Cond.methodLink RX1 3 objectInit ∈ xWS ∧ Cond.instanceMethod objectInit ∈ xWS ∧ Cond.code objectInit ⟨#[0xb1]⟩ 1 none ∈ xWS := ⟨xWS_mem 241 (by decide +kernel) rfl, xWS_mem 88 (by decide +kernel) rfl, xWS_mem 89 (by decide +kernel) rfl⟩
theorem oi_X2 : Cond.methodLink RX2 3 objectInit ∈ xWS ∧ Cond.instanceMethod objectInit ∈ xWS ∧ Cond.code objectInit ⟨#[0xb1]⟩ 1 none ∈ xWS := ⟨xWS_mem 122 (by decide +kernel) rfl, xWS_mem 88 (by decide +kernel) rfl, xWS_mem 89 (by decide +kernel) rfl⟩
theorem oi_X3 : Cond.methodLink RX3 3 objectInit ∈ xWS ∧ Cond.instanceMethod objectInit ∈ xWS ∧ Cond.code objectInit ⟨#[0xb1]⟩ 1 none ∈ xWS := ⟨xWS_mem 260 (by decide +kernel) rfl, xWS_mem 88 (by decide +kernel) rfl, xWS_mem 89 (by decide +kernel) rfl⟩
theorem oi_X4 : Cond.methodLink RX4 3 objectInit ∈ xWS ∧ Cond.instanceMethod objectInit ∈ xWS ∧ Cond.code objectInit ⟨#[0xb1]⟩ 1 none ∈ xWS := ⟨xWS_mem 280 (by decide +kernel) rfl, xWS_mem 88 (by decide +kernel) rfl, xWS_mem 89 (by decide +kernel) rfl⟩
theorem oi_X5 : Cond.methodLink RX5 3 objectInit ∈ xWS ∧ Cond.instanceMethod objectInit ∈ xWS ∧ Cond.code objectInit ⟨#[0xb1]⟩ 1 none ∈ xWS := ⟨xWS_mem 166 (by decide +kernel) rfl, xWS_mem 88 (by decide +kernel) rfl, xWS_mem 89 (by decide +kernel) rfl⟩
theorem oi_X6 : Cond.methodLink RX6 1 objectInit ∈ xWS ∧ Cond.instanceMethod objectInit ∈ xWS ∧ Cond.code objectInit ⟨#[0xb1]⟩ 1 none ∈ xWS := ⟨xWS_mem 87 (by decide +kernel) rfl, xWS_mem 88 (by decide +kernel) rfl, xWS_mem 89 (by decide +kernel) rfl⟩
theorem oi_X7 : Cond.methodLink RX7 1 objectInit ∈ xWS ∧ Cond.instanceMethod objectInit ∈ xWS ∧ Cond.code objectInit ⟨#[0xb1]⟩ 1 none ∈ xWS := ⟨xWS_mem 922 (by decide +kernel) rfl, xWS_mem 88 (by decide +kernel) rfl, xWS_mem 89 (by decide +kernel) rfl⟩
theorem xws_of {γ : xG} {S : xS} {h : xH} {ws : va_W} {N : Nat} (hS : S.length = N) (hW : ws.length = N) (hk : ∀ i, i < N → ws[i]? = Option.map (fun f => (γ.2.2.2 i, f γ (h i))) S[i]?) : ws = xws γ S h := by
  apply List.ext_getElem?
  intro i
  rw [xws, List.getElem?_mapIdx]
  by_cases hi : i < N
  · exact hk i hi
  · rw [List.getElem?_eq_none (by omega), List.getElem?_eq_none (by omega)]; rfl
def h0C : xH := fun k => match k with
  | 24 => fun j => if j = 15 then 1 else 0
  | 31 => (upd (upd (upd (upd (upd (upd (fun _ => 0) 0 100) 1 100) 2 100) 3 100) 4 100) 5 100)
  | 32 => (upd (upd (upd (upd (upd (upd (fun _ => 0) 0 0) 1 1) 2 2) 3 3) 4 4) 5 5)
  | 33 => (upd (upd (upd (fun _ => 0) 0 (-1)) 1 (-1)) 2 (-1))
  | 34 => fun j => if j = 15 then 1 else 0
  | 41 => (upd (upd (upd (upd (upd (upd (fun _ => 0) 0 100) 1 100) 2 100) 3 100) 4 100) 5 100)
  | 42 => (upd (upd (upd (upd (upd (upd (fun _ => 0) 0 0) 1 1) 2 2) 3 3) 4 4) 5 5)
  | 43 => (upd (upd (upd (fun _ => 0) 0 (-1)) 1 (-1)) 2 (-1))
  | 44 => fun j => if j = 15 then 1 else 0
  | 51 => (upd (upd (upd (upd (upd (upd (fun _ => 0) 0 100) 1 100) 2 100) 3 100) 4 100) 5 100)
  | 52 => (upd (upd (upd (upd (upd (upd (fun _ => 0) 0 0) 1 1) 2 2) 3 3) 4 4) 5 5)
  | 53 => (upd (upd (upd (fun _ => 0) 0 (-1)) 1 (-1)) 2 (-1))
  | 60 => fun j => if j = 1 then -1 else 0
  | 62 => fun j => if j = 1 then -1 else 0
  | 64 => fun j => if j = 1 then -1 else 0
  | 66 => fun j => if j = 1 then -1 else 0
  | 70 => fun j => if j = 1 then -1 else 0
  | 73 => fun j => if j = 1 then -1 else 0
  | 76 => fun j => if j = 1 then -1 else 0
  | 79 => fun j => if j = 1 then -1 else 0
  | 82 => fun j => if j = 1 then -1 else 0
  | _ => fun _ => 0
def h0M : xH := fun k => match k with
  | 1 => (upd (upd (upd (upd (upd (upd (upd (upd (upd (upd (upd (upd (upd (fun _ => 0) 5 1) 6 100) 12 0) 7 100) 13 1) 8 100) 14 2) 9 100) 15 3) 10 100) 16 4) 11 100) 17 5)
  | 4 => (upd (upd (upd (upd (fun _ => 0) 0 (-1)) 1 (-1)) 2 (-1)) 3 (-1))
  | _ => fun _ => 0
