/-! statics; what the laws' variables stand for -/
section LOOK
variable {D : Nat} {code : Nat → mm_A} {pc nx : Nat} {ls : List (Option Value)} {r : List Value} {h : mm_H} {Q : mm_Q}
theorem l_sta (q : Nat) {xs : List Int32} {j : Int32} (hs : mm_sl[q]? = some xs) (hc : code pc = a_iald mm_xt nx) (h0 : 0 ≤ j.toInt) (h1 : j.toInt < xs.length) (kk : ∀ x : Int32, xs[j.toInt.toNat]? = some x → mm_W D code nx ls (.int x :: r) h Q) : mm_W D code pc ls (.int j :: .ref (1000 + q) :: r) h Q :=
  w_st (fun F => by
    have e1 : xs[j.toNatClampNeg]? = some (xs[j.toInt.toNat]'(by omega)) := List.getElem?_eq_getElem (by show j.toInt.toNat < _; omega)
    have e2 : Nat.blt (1000 + q) 1000 = false := by rw [mm_blt]; exact decide_eq_false (by omega)
    have e3 : mm_xt (1000 + q - 1000) = some xs := by
      show mm_sl[1000 + q - 1000]? = _
      rw [show 1000 + q - 1000 = q by omega]
      exact hs
    rw [hc]
    simp only [a_iald, decide_eq_false (i_nneg h0), cond_false, e2, e3, e1]) (kk _ (List.getElem?_eq_getElem (by omega)))
end LOOK
theorem isI_12 : isI 12 := ⟨by decide, fun _ _ _ _ => rfl⟩
theorem isI_16 : isI 16 := ⟨by decide, fun _ _ _ _ => rfl⟩
theorem isI_17 : isI 17 := ⟨by decide, fun _ _ _ _ => rfl⟩
theorem l9 {xs : List Int32} (h : xs.length = 9) : ∃ a b c d e f g i j, xs = [a, b, c, d, e, f, g, i, j] := by
  match xs, h with
  | [a, b, c, d, e, f, g, i, j], _ => exact ⟨a, b, c, d, e, f, g, i, j, rfl⟩
theorem uA_12 {A : mA} {x : List Int32} {j : Nat} (h : j ≠ 12) : uA A 12 x j = A j := uA_ne h
