/-! how far a sheet is from the wear -/
theorem ab {x w : Int32} (hx : vok x) (hn : ¬ x = -1000000005) (hw : rg w 99) : (if 0 ≤ w - x then w - x else 0 - (w - x)) = ofA x w := by
  have hx : -99999 ≤ x.toInt ∧ x.toInt ≤ 99999 := hx.resolve_left hn
  have h1 := hw.1
  have h2 := hw.2
  have e1 : (w - x).toInt = w.toInt - x.toInt := by
    rw [Int32.toInt_sub]
    apply Int.bmod_eq_of_le <;> omega
  have e2 : (x - w).toInt = x.toInt - w.toInt := by
    rw [Int32.toInt_sub]
    apply Int.bmod_eq_of_le <;> omega
  have e3 : (0 - (w - x)).toInt = x.toInt - w.toInt := by
    rw [Int32.toInt_sub, e1, show (0 : Int32).toInt = 0 from rfl, show (0 : Int) - (w.toInt - x.toInt) = x.toInt - w.toInt by omega]
    apply Int.bmod_eq_of_le <;> omega
  apply Int32.toInt_inj.mp
  unfold ofA
  by_cases c : 0 ≤ w - x
  · rw [if_pos c, e1]
    rw [Int32.le_iff_toInt_le, e1, show (0 : Int32).toInt = 0 from rfl] at c
    by_cases c2 : w ≤ x
    · rw [if_pos c2, e2]
      rw [Int32.le_iff_toInt_le] at c2
      omega
    · rw [if_neg c2, e1]
  · rw [if_neg c, e3]
    rw [Int32.le_iff_toInt_le, e1, show (0 : Int32).toInt = 0 from rfl] at c
    rw [if_pos (by rw [Int32.le_iff_toInt_le]; omega), e2]
def dst (D τ : Nat → Int32) (x : Int32) (n : Nat) : Nat → Int32 := fun j => if j < n then D j + ofA x (τ (18 + 6 * j + 3)) else D j
theorem dst_s {D τ : Nat → Int32} {x : Int32} {n : Nat} : upd (dst D τ x n) n (D n + ofA x (τ (18 + 6 * n + 3))) = dst D τ x (n + 1) := by
  funext j
  unfold upd dst
  by_cases c : j = n
  · subst c; rw [if_pos rfl, if_pos (by omega)]
  · rw [if_neg c]
    by_cases c2 : j < n
    · rw [if_pos c2, if_pos (by omega)]
    · rw [if_neg c2, if_neg (by omega)]
theorem dst_n {D τ : Nat → Int32} {x : Int32} {n : Nat} : dst D τ x n n = D n := if_neg (by omega)
theorem C_cw_in {N : Nat} {τ D : Nat → Int32} {x : Int32} (hN : N ≤ 10) (h0 : τ 0 = nI N) (hx : vok x) (hxn : ¬ x = -1000000005) : ∀ m d f (h : xH), d + m = N → m < f → CW h 44 τ → h 58 = dst D τ x d → ∃ h', f_X6_addDifferences_c2 x f (nI d) h = some (0, h') ∧ h' 58 = dst D τ x N ∧ ∀ q, q ≠ 58 → h' q = h q
  | m, d, 0, h, _, h2, _, _ => absurd h2 (Nat.not_lt_zero _)
  | 0, d, f + 1, h, h1, _, hw, hD => by
    have hd : d = N := by omega
    subst hd
    exact ⟨h, by rw [f_X6_addDifferences_c2, hw.1.days, h0, if_pos (nI_le (by omega) (by omega))], hD, fun _ _ => rfl⟩
  | m + 1, d, f + 1, h, h1, h2, hw, hD => by
    have hwd : h 48 d = τ (18 + 6 * d + 3) := hw.1.day (k := 3) (by omega) (by omega) (a := 48) rfl
    have hr : rg (τ (18 + 6 * d + 3)) 99 := hw.2.2.dd (d := d) (k := 3) (by omega) (by omega)
    have hf : ∀ q, q ≠ 58 → xst h 58 d (h 58 d + ofA x (τ (18 + 6 * d + 3))) q = h q := fun q hq => xst_ne hq
    have hw' : CW (xst h 58 d (h 58 d + ofA x (τ (18 + 6 * d + 3)))) 44 τ := ⟨hw.1.keep (fun a _ h2 => hf a (by omega)), hw.2.1.cg (fun a _ h2 => hf a (by omega)) (fun _ _ => rfl), hw.2.2⟩
    obtain ⟨h', i1, i2, i3⟩ := C_cw_in (D := D) hN h0 hx hxn m (d + 1) f _ (by omega) (by omega) hw' (by rw [xst_self, hD, dst_n, dst_s])
    refine ⟨h', ?_, i2, fun q hq => (i3 q hq).trans (hf q hq)⟩
    rw [f_X6_addDifferences_c2, hw.1.days, h0, if_neg (nI_ge (by omega) (by omega)), gd_n (show d < 10 by omega) (by omega), gd_n (show d < 10 by omega) (by omega), nI_clamp (show d < 2 ^ 31 by omega), nm_x, gd_n (show d < 10 by omega) (by omega), nm_x, nI_1, hwd, ab hx hxn hr]
    exact i1
