/-! The grammar of sums as a small automaton over kinds of tokens: at t, so deep, s = 0: a unit is wanted, 1: behind one -/
abbrev isU (c : Int) : Prop := c = 22 ∨ (12 ≤ c ∧ c ≤ 20)
abbrev isOp (c : Int) : Prop := c = 43 ∨ c = 45 ∨ c = 42 ∨ c = 47
def au (K : Int → Int) : Nat → Int → Int → Int → Int × Int
  | 0, t, _, _ => (9, t)
  | n + 1, t, d, s => if s = 0 then (if K t = 40 then (if d = 6 ∨ t = 400 then (2, t) else au K n (t + 1) (d + 1) 0) else if isU (K t) then (if t = 400 then (2, t) else au K n (t + 1) d 1) else (1, t)) else (if K t = 41 ∧ 0 < d then (if t = 400 then (2, t) else au K n (t + 1) (d - 1) 1) else if isOp (K t) then (if t = 400 then (2, t) else au K n (t + 1) d 0) else if 0 < d then (1, t) else (0, t))
def AU (K : Int → Int) (t d s : Int) : Int × Int := au K (Int.toNat (402 - t)) t d s
section AUT
variable {K : Int → Int} {t d s : Int}
theorem AU_st (h : t ≤ 400) : AU K t d s = if s = 0 then (if K t = 40 then (if d = 6 ∨ t = 400 then (2, t) else AU K (t + 1) (d + 1) 0) else if isU (K t) then (if t = 400 then (2, t) else AU K (t + 1) d 1) else (1, t)) else (if K t = 41 ∧ 0 < d then (if t = 400 then (2, t) else AU K (t + 1) (d - 1) 1) else if isOp (K t) then (if t = 400 then (2, t) else AU K (t + 1) d 0) else if 0 < d then (1, t) else (0, t)) := by
  unfold AU
  rw [show Int.toNat (402 - t) = Int.toNat (402 - (t + 1)) + 1 by omega]
  rfl
theorem AU_o (h : t < 400) (k : K t = 40) (hd : ¬ d = 6) : AU K t d 0 = AU K (t + 1) (d + 1) 0 := by rw [AU_st (by omega), if_pos rfl, if_pos k, if_neg (by omega)]
theorem AU_o6 (h : t ≤ 400) (k : K t = 40) (hd : d = 6 ∨ t = 400) : AU K t d 0 = (2, t) := by rw [AU_st h, if_pos rfl, if_pos k, if_pos hd]
theorem AU_u (h : t < 400) (k : isU (K t)) : AU K t d 0 = AU K (t + 1) d 1 := by rw [AU_st (by omega), if_pos rfl, if_neg (by unfold isU at k; omega), if_pos k, if_neg (by omega)]
theorem AU_u4 (h : t = 400) (k : isU (K t)) : AU K t d 0 = (2, t) := by rw [AU_st (by omega), if_pos rfl, if_neg (by unfold isU at k; omega), if_pos k, if_pos h]
theorem AU_x (h : t ≤ 400) (k : ¬ K t = 40) (u : ¬ isU (K t)) : AU K t d 0 = (1, t) := by rw [AU_st h, if_pos rfl, if_neg k, if_neg u]
theorem AU_c (h : t < 400) (k : K t = 41) (hd : 0 < d) : AU K t d 1 = AU K (t + 1) (d - 1) 1 := by rw [AU_st (by omega), if_neg (by omega), if_pos ⟨k, hd⟩, if_neg (by omega)]
theorem AU_c4 (h : t = 400) (k : K t = 41) (hd : 0 < d) : AU K t d 1 = (2, t) := by rw [AU_st (by omega), if_neg (by omega), if_pos ⟨k, hd⟩, if_pos h]
theorem AU_p (h : t < 400) (k : isOp (K t)) : AU K t d 1 = AU K (t + 1) d 0 := by rw [AU_st (by omega), if_neg (by omega), if_neg (by unfold isOp at k; omega), if_pos k, if_neg (by omega)]
theorem AU_p4 (h : t = 400) (k : isOp (K t)) : AU K t d 1 = (2, t) := by rw [AU_st (by omega), if_neg (by omega), if_neg (by unfold isOp at k; omega), if_pos k, if_pos h]
theorem AU_e (h : t ≤ 400) (k : ¬ K t = 41) (u : ¬ isOp (K t)) (hd : 0 < d) : AU K t d 1 = (1, t) := by rw [AU_st h, if_neg (by omega), if_neg (fun q => k q.1), if_neg u, if_pos hd]
theorem AU_z (h : t ≤ 400) (u : ¬ isOp (K t)) (hd : ¬ 0 < d) : AU K t d 1 = (0, t) := by rw [AU_st h, if_neg (by omega), if_neg (fun q => hd q.2), if_neg u, if_neg hd]
end AUT
def kC (m : Mm) (t : Int) : Int := rd m 2 (Int.toNat t)
theorem kC_eq {m0 m m2 : Mm} (g : RX m0 m) (h : RX m0 m2) : kC m2 = kC m := funext fun t => (h.2.2.2.2.1 2 _ rfl).trans (g.2.2.2.2.1 2 _ rfl).symm
theorem st_eq {m0 m m2 : Mm} (g : RX m0 m) (h : RX m0 m2) (j : Nat) : rd m2 3 j = rd m 3 j := (h.2.2.2.2.1 3 _ rfl).trans (g.2.2.2.2.1 3 _ rfl).symm
/-- a token is taken -/
def tkP (m m2 : Mm) (k v : Int) : Prop := ((¬ rd m 19 5 = 0 ∧ v = 0 ∧ rd m2 19 5 = rd m 19 5 ∧ rd m2 19 0 = rd m 19 0 ∧ rd m2 19 4 = rd m 19 4) ∨ (rd m 19 5 = 0 ∧ rd m 2 (Int.toNat (rd m 19 4)) = k ∧ rd m 19 4 < 400 ∧ v = 1 ∧ rd m2 19 5 = 0 ∧ rd m2 19 0 = rd m 19 0 ∧ rd m2 19 4 = rd m 19 4 + 1) ∨ (rd m 19 5 = 0 ∧ v = 0 ∧ ((rd m 2 (Int.toNat (rd m 19 4)) = k ∧ rd m 19 4 = 400 ∧ rd m2 19 5 = 2) ∨ (¬ rd m 2 (Int.toNat (rd m 19 4)) = k ∧ rd m2 19 5 = 1)) ∧ rd m2 19 0 = rd m 3 (Int.toNat (rd m 19 4)) ∧ rd m2 19 4 = rd m 19 4)) ∧ rd m2 19 6 = rd m 19 6 ∧ rd m2 19 7 = rd m 19 7
/-- a law's rows alone are written -/
def lwF (m m2 : Mm) : Prop := rd m2 19 4 = rd m 19 4 ∧ rd m2 19 5 = rd m 19 5 ∧ rd m2 19 0 = rd m 19 0 ∧ rd m2 19 6 = rd m 19 6 ∧ rd m2 19 7 = rd m 19 7 ∧ rd m2 19 4 = rd m 19 4 ∧ rd m2 2 (Int.toNat (rd m 19 4)) = rd m 2 (Int.toNat (rd m 19 4)) ∧ rd m2 3 (Int.toNat (rd m 19 4)) = rd m 3 (Int.toNat (rd m 19 4))
theorem lwF_of {m m2 : Mm} (h : GX (sL 20) m m2) : lwF m m2 :=
  have s := sL20 h
  ⟨s 19 4 (by omega), s 19 5 (by omega), s 19 0 (by omega), s 19 6 (by omega), s 19 7 (by omega), s 19 4 (by omega), s 2 _ (by omega), s 3 _ (by omega)⟩
def auP (m m2 : Mm) (d : Int) : Prop := (rd m2 19 6 = rd m 19 6 ∧ rd m2 19 7 = rd m 19 7 ∧ (rd m2 19 5 = 0 → rd m2 19 0 = rd m 19 0)) ∧ (¬ rd m 19 5 = 0 → rd m2 19 5 = rd m 19 5 ∧ rd m2 19 0 = rd m 19 0) ∧ (rd m 19 5 = 0 → (rd m2 19 5 = 0 ∧ rd m 19 4 < rd m2 19 4 ∧ AU (kC m) (rd m 19 4) d 0 = AU (kC m) (rd m2 19 4) d 1) ∨ (¬ rd m2 19 5 = 0 ∧ ∃ tt : Int, AU (kC m) (rd m 19 4) d 0 = (rd m2 19 5, tt) ∧ rd m2 19 0 = rd m 3 (Int.toNat tt)))
def prP (m m2 : Mm) (d : Int) : Prop := auP m m2 d ∧ (rd m2 19 5 = 0 → ¬ (kC m (rd m2 19 4) = 42 ∨ kC m (rd m2 19 4) = 47))
def suP (m m2 : Mm) (d : Int) : Prop := auP m m2 d ∧ (rd m2 19 5 = 0 → ¬ isOp (kC m (rd m2 19 4)))
theorem au_f {m : Mm} {d : Int} (h : ¬ rd m 19 5 = 0) : auP m m d := ⟨⟨rfl, rfl, fun _ => rfl⟩, fun _ => ⟨rfl, rfl⟩, fun q => absurd q h⟩
theorem au_u {m mw m2 : Mm} {d k v : Int} (l : lwF m mw) (ek : rd m 2 (Int.toNat (rd m 19 4)) = k) (hu : rd m 2 (Int.toNat (rd m 19 4)) = 22 ∨ (12 ≤ rd m 2 (Int.toNat (rd m 19 4)) ∧ rd m 2 (Int.toNat (rd m 19 4)) ≤ 20)) (h0 : rd m 19 5 = 0 ∧ rd m 19 4 ≤ 400) (tk : tkP mw m2 k v) : auP m m2 d := by
  subst ek
  obtain ⟨l1, l2, l3, l4, l5, -, l7, l8⟩ := l
  unfold tkP at tk
  rw [l1, l2, l3, l4, l5, l7, l8] at tk
  have ku : isU (kC m (rd m 19 4)) := hu
  refine ⟨⟨tk.2.1, tk.2.2, fun w => by have := tk.1; omega⟩, fun q => absurd h0.1 q, fun _ => ?_⟩
  rcases tk.1 with q | ⟨-, -, q1, -, q2, -, q3⟩ | ⟨-, -, q1, q2, q3⟩
  · exact absurd h0.1 q.1
  · exact Or.inl ⟨q2, by omega, by rw [q3]; exact AU_u q1 ku⟩
  · rcases q1 with ⟨-, w1, w2⟩ | ⟨w1, -⟩
    · exact Or.inr ⟨by omega, rd m 19 4, by rw [w2]; exact AU_u4 w1 ku, q2⟩
    · exact absurd rfl w1
theorem au_6 {m m2 : Mm} {d : Int} (h0 : rd m 19 5 = 0 ∧ rd m 19 4 ≤ 400) (k : rd m 2 (Int.toNat (rd m 19 4)) = 40) (hd : d = 6) (h : ((rd m 19 5 = 0 ∧ rd m2 19 5 = 2 ∧ rd m2 19 0 = rd m 3 (Int.toNat (rd m 19 4))) ∨ (¬ rd m 19 5 = 0 ∧ rd m2 19 5 = rd m 19 5 ∧ rd m2 19 0 = rd m 19 0)) ∧ rd m2 19 4 = rd m 19 4 ∧ rd m2 19 6 = rd m 19 6 ∧ rd m2 19 7 = rd m 19 7) : auP m m2 d := by
  refine ⟨⟨h.2.2.1, h.2.2.2, fun w => by omega⟩, fun q => absurd h0.1 q, fun _ => Or.inr ⟨by omega, rd m 19 4, ?_, by omega⟩⟩
  rw [show rd m2 19 5 = 2 by omega]
  exact AU_o6 h0.2 k (Or.inl hd)
theorem au_par {m m1 m2 m3 : Mm} {d v w : Int} (h0 : rd m 19 5 = 0 ∧ rd m 19 4 ≤ 400) (hu : ¬ (rd m 2 (Int.toNat (rd m 19 4)) = 22 ∨ (12 ≤ rd m 2 (Int.toNat (rd m 19 4)) ∧ rd m 2 (Int.toNat (rd m 19 4)) ≤ 20))) (hd : rd m 2 (Int.toNat (rd m 19 4)) = 40 → ¬ d = 6) (hp : 0 ≤ d) (t1 : tkP m m1 40 v) (k1 : kC m1 = kC m) (s1 : ∀ j, rd m1 3 j = rd m 3 j) (su : suP m1 m2 (d + 1)) (k2 : kC m2 = kC m) (s2 : ∀ j, rd m2 3 j = rd m 3 j) (t3 : tkP m2 m3 41 w) (h4 : rd m2 19 4 ≤ 400 := by omega) : auP m m3 d := by
  obtain ⟨⟨a1, a2, a3⟩, a4⟩ := su
  rw [k1] at a3 a4
  have ek : kC m (rd m 19 4) = rd m 2 (Int.toNat (rd m 19 4)) := rfl
  have ek2 : rd m2 2 (Int.toNat (rd m2 19 4)) = kC m (rd m2 19 4) := by rw [← k2]; rfl
  have e67 : rd m3 19 6 = rd m 19 6 ∧ rd m3 19 7 = rd m 19 7 ∧ (rd m3 19 5 = 0 → rd m3 19 0 = rd m 19 0) := ⟨by rw [t3.2.1, a1.1, t1.2.1], by rw [t3.2.2, a1.2.1, t1.2.2], fun w => by have b1 := t3.1; have b2 := a1.2.2; have b3 := t1.1; have b4 := a2; omega⟩
  refine ⟨e67, fun q => absurd h0.1 q, fun _ => ?_⟩
  have T3 := t3.1
  rcases t1.1 with q | ⟨-, q0, q1, -, q2, -, q3⟩ | ⟨-, -, q1, q2, q3⟩
  · exact absurd h0.1 q.1
  · -- '(' is there
    have st : AU (kC m) (rd m 19 4) d 0 = AU (kC m) (rd m1 19 4) (d + 1) 0 := by rw [q3]; exact AU_o q1 q0 (hd q0)
    rcases a3 q2 with ⟨b1, b2, b3⟩ | ⟨b1, tt, b2, b3⟩
    · have np := a4 b1
      rcases T3 with r | ⟨-, r0, r1, -, r2, -, r3⟩ | ⟨-, -, r1, r2, r3⟩
      · exact absurd b1 r.1
      · refine Or.inl ⟨r2, by omega, ?_⟩
        rw [st, b3, r3, AU_c r1 (by rw [← ek2]; exact r0) (by omega), show d + 1 - 1 = d by omega]
      · refine Or.inr ?_
        rcases r1 with ⟨w0, w1, w2⟩ | ⟨w0, w2⟩
        · exact ⟨by omega, rd m2 19 4, by rw [st, b3, w2]; exact AU_c4 w1 (by rw [← ek2]; exact w0) (by omega), by rw [r2, s2]⟩
        · exact ⟨by omega, rd m2 19 4, by rw [st, b3, w2]; exact AU_e h4 (by rw [← ek2]; exact w0) np (by omega), by rw [r2, s2]⟩
    · refine Or.inr ⟨?_, tt, ?_, ?_⟩
      · rcases T3 with ⟨-, -, r, -⟩ | ⟨r, -⟩ | ⟨r, -⟩
        · omega
        · exact absurd r b1
        · exact absurd r b1
      · rw [st, b2]
        rcases T3 with ⟨-, -, r, -⟩ | ⟨r, -⟩ | ⟨r, -⟩
        · rw [r]
        · exact absurd r b1
        · exact absurd r b1
      · rcases T3 with ⟨-, -, -, r, -⟩ | ⟨r, -⟩ | ⟨r, -⟩
        · rw [r, b3, s1]
        · exact absurd r b1
        · exact absurd r b1
  · -- no '(', or no room
    have f1 : ¬ rd m1 19 5 = 0 := by omega
    have b := a2 f1
    have f2 : ¬ rd m2 19 5 = 0 := by omega
    have r5 : rd m3 19 5 = rd m1 19 5 ∧ rd m3 19 0 = rd m1 19 0 := by
      rcases T3 with ⟨-, -, r, r0, -⟩ | ⟨r, -⟩ | ⟨r, -⟩
      · exact ⟨by rw [r, b.1], by rw [r0, b.2]⟩
      · exact absurd r f2
      · exact absurd r f2
    refine Or.inr ⟨by omega, rd m 19 4, ?_, by rw [r5.2, q2]⟩
    rw [r5.1]
    rcases q1 with ⟨w0, w1, w2⟩ | ⟨w0, w2⟩
    · rw [w2]; exact AU_o6 h0.2 w0 (Or.inr w1)
    · rw [w2]; exact AU_x h0.2 w0 hu
theorem au_op {m m7 m54 m60 m69 : Mm} {d v : Int} (h : auP m m7 d) (h0 : rd m7 19 5 = 0 ∧ rd m7 19 4 ≤ 400) (ho : isOp (rd m7 2 (Int.toNat (rd m7 19 4)))) (k7 : kC m7 = kC m) (s7 : ∀ j, rd m7 3 j = rd m 3 j) (t : tkP m7 m54 (rd m7 2 (Int.toNat (rd m7 19 4))) v) (k54 : kC m54 = kC m) (s54 : ∀ j, rd m54 3 j = rd m 3 j) (u : auP m54 m60 d) (l : lwF m60 m69) : auP m m69 d ∧ (rd m69 19 5 = 0 → rd m7 19 4 + 2 ≤ rd m69 19 4) := by
  obtain ⟨l1, l2, l3, l4, l5, -⟩ := l
  obtain ⟨u1, u2, u3⟩ := u
  obtain ⟨a1, a2, a3⟩ := h
  rw [k54] at u3
  have ek : kC m (rd m7 19 4) = rd m7 2 (Int.toNat (rd m7 19 4)) := by rw [← k7]; rfl
  have op : isOp (kC m (rd m7 19 4)) := by rw [ek]; exact ho
  have e67 : rd m69 19 6 = rd m 19 6 ∧ rd m69 19 7 = rd m 19 7 ∧ (rd m69 19 5 = 0 → rd m69 19 0 = rd m 19 0) := ⟨by rw [l4, u1.1, t.2.1, a1.1], by rw [l5, u1.2.1, t.2.2, a1.2.1], fun w => by have b1 := t.1; have b2 := u1.2.2; have b3 := u2; have b4 := a1.2.2; have b5 := a2; omega⟩
  have z : rd m 19 5 = 0 := by
    by_cases q : rd m 19 5 = 0
    · exact q
    · have := a2 q; omega
  have b := a3 z
  have b1 : rd m 19 4 < rd m7 19 4 ∧ AU (kC m) (rd m 19 4) d 0 = AU (kC m) (rd m7 19 4) d 1 := by
    rcases b with ⟨-, b2, b3⟩ | ⟨b2, -⟩
    · exact ⟨b2, b3⟩
    · exact absurd h0.1 b2
  rcases t.1 with q | ⟨-, -, q1, -, q2, -, q3⟩ | ⟨-, -, q1, q2, q3⟩
  · exact absurd h0.1 q.1
  · have st : AU (kC m) (rd m 19 4) d 0 = AU (kC m) (rd m54 19 4) d 0 := by rw [b1.2, q3]; exact AU_p q1 op
    rcases u3 q2 with ⟨c1, c2, c3⟩ | ⟨c1, tt, c2, c3⟩
    · exact ⟨⟨e67, fun w => absurd z w, fun _ => Or.inl ⟨by omega, by omega, by rw [st, c3, l1]⟩⟩, fun _ => by omega⟩
    · exact ⟨⟨e67, fun w => absurd z w, fun _ => Or.inr ⟨by omega, tt, by rw [st, c2, l2], by rw [l3, c3, s54]⟩⟩, fun w => by omega⟩
  · have f1 : ¬ rd m54 19 5 = 0 := by omega
    have c := u2 f1
    rcases q1 with ⟨-, w1, w2⟩ | ⟨w0, -⟩
    · exact ⟨⟨e67, fun w => absurd z w, fun _ => Or.inr ⟨by omega, rd m7 19 4, by rw [b1.2, l2, c.1, w2]; exact AU_p4 w1 op, by rw [l3, c.2, q2, s7]⟩⟩, fun w => by omega⟩
    · exact absurd rfl w0
-- TippedCrates$Reader.isEither(II)Z
set_option maxRecDepth 20000 in
theorem cx_50 {m : Mm} {x1 : Int} {x2 : Int}  (T_m : Ty m) (r_x1 : rg x1) (r_x2 : rg x2)  : CK 1 50 [.ref 19, iv x1, iv x2] m (fun m2 v => m2 = m ∧ ((v = 1 ∧ (rd m 2 (Int.toNat (rd m 19 4)) = x1 ∨ rd m 2 (Int.toNat (rd m 19 4)) = x2)) ∨ (v = 0 ∧ ¬ (rd m 2 (Int.toNat (rd m 19 4)) = x1 ∨ rd m 2 (Int.toNat (rd m 19 4)) = x2)))) := by
  refine br_50 r_x1 r_x2 ?_
  unfold P_50
  have t1 := ty_19_4 T_m
  refine ⟨⟨by omega, by omega⟩, ?_⟩
  refine ⟨fun s0_37 => (s0_37 = 1 ∧ (rd m 2 (Int.toNat (rd m 19 4)) = x1 ∨ rd m 2 (Int.toNat (rd m 19 4)) = x2)) ∨ (s0_37 = 0 ∧ ¬ (rd m 2 (Int.toNat (rd m 19 4)) = x1 ∨ rd m 2 (Int.toNat (rd m 19 4)) = x2)), ?_, ?_⟩
  · skip
    refine ⟨rd m 2 (Int.toNat (rd m 19 4)) = x1 ∨ rd m 2 (Int.toNat (rd m 19 4)) = x2, ?_, ?_⟩
    · skip
      refine ⟨fun hq => ?_, fun hq => ?_⟩
      · skip
        (first | trivial | omega | (refine ⟨?_, ?_⟩ <;> omega))
      · skip
        refine ⟨⟨by omega, by omega⟩, ?_⟩
        refine ⟨fun hq => ?_, fun hq => ?_⟩
        · skip
          (first | trivial | omega | (refine ⟨?_, ?_⟩ <;> omega))
        · skip
          (first | trivial | omega | (refine ⟨?_, ?_⟩ <;> omega))
    · intro   hR_32
      (first | trivial | omega | (refine ⟨?_, ?_⟩ <;> omega))
  · intro s0_37 r_s0_37 hR_37
    exact ⟨by omega, ⟨rfl, by first | trivial | omega | (refine ⟨?_, ?_⟩ <;> omega)⟩⟩
-- TippedCrates$Reader.readUnit(I)V
set_option maxRecDepth 20000 in
theorem cx_49 {m0 m : Mm} {x1 : Int} {D : Nat} (hD : 3 ≤ D) (ih : ∀ {m0 m : Mm} {y : Int} (_ : RX m0 m) (_ : rg y) (_ : 0 ≤ y ∧ y ≤ 7) (_ : y = 7 → ¬ rd m 19 5 = 0) (_ : x1 < y), CV D 47 [.ref 19, iv y] m (fun m2 => RX m0 m2 ∧ suP m m2 y)) (g_m : RX m0 m) (r_x1 : rg x1) (p0 : 0 ≤ x1 ∧ x1 ≤ 7) (p1 : x1 = 7 → ¬ rd m 19 5 = 0) : CV (D + 1) 49 [.ref 19, iv x1] m (fun m2 => RX m0 m2 ∧ (auP m m2 x1)) := by
  refine br_49 (d := D) r_x1 ?_
  unfold P_49
  have tt := ty_19_4 g_m.1
  refine ⟨fun hq => ?_, fun hq => ?_⟩
  · skip
    refine CK.mono (ct_36   g_m.1) (by omega) ?_
    rintro m9 v9 r_v9 ⟨e_m9, h_m9⟩
    replace e_m9 := e_m9.symm
    subst e_m9
    refine ⟨fun m_135 => RX m0 m_135 ∧ (auP m m_135 x1), ?_, ?_⟩
    · skip
      refine ⟨fun hq => ?_, fun hq => ?_⟩
      · skip
        refine CK.mono (ct_36   g_m.1) (by omega) ?_
        rintro m50 v50 r_v50 ⟨e_m50, h_m50⟩
        replace e_m50 := e_m50.symm
        subst e_m50
        refine CK.mono (ct_166   r_v50 (by unfold rg; decide) (by unfold rg; decide)) (by omega) ?_
        rintro m57 v57 r_v57 ⟨e_m57, h_m57⟩
        replace e_m57 := e_m57.symm
        subst e_m57
        refine ⟨fun hq => ?_, fun hq => ?_⟩
        · skip
          refine CK.mono (ct_36   g_m.1) (by omega) ?_
          rintro m92 v92 r_v92 ⟨e_m92, h_m92⟩
          replace e_m92 := e_m92.symm
          subst e_m92
          refine ⟨¬ v92 = 40 ∨ x1 < 6, ?_, ?_⟩
          · skip
            refine ⟨fun hq => ?_, fun hq => ?_⟩
            · skip
              (first | trivial | omega | (refine ⟨?_, ?_⟩ <;> omega))
            · skip
              refine ⟨fun hq => ?_, fun hq => ?_⟩
              · skip
                (first | trivial | omega | (refine ⟨?_, ?_⟩ <;> omega))
              · skip
                refine CV.mono (ct_37   g_m.1 (by unfold rg; decide) (by omega)) (by omega) ?_
                rintro m108 ⟨hx_m108, h_m108⟩
                have g_m108 : RX m0 m108 := RX.tk g_m hx_m108 (by omega) (by omega)
                have au108 : auP m m108 x1 := au_6 (by omega) (by omega) (by omega) h_m108
                exact ⟨g_m108, by first | exact au42 | exact au84 | exact au108 | exact au131⟩
          · intro   hR_114
            refine CK.mono (ct_39   g_m.1 (by unfold rg; decide)) (by omega) ?_
            rintro m117 v117 r_v117 ⟨hx_m117, h_m117⟩
            have g_m117 : RX m0 m117 := RX.tk g_m hx_m117 (by omega) (by omega)
            have wx : wr (x1 + 1) = x1 + 1 := wr_id (by omega) (by omega)
            try have w2 : wr (x1 + 1) = x1 + 1 := wr_id (by omega) (by omega)
            refine CV.mono (ih g_m117 (wr_rg _) (by omega) (by omega) (by omega)) (by omega) ?_
            rintro m125 ⟨g_m125, h_m125⟩
            refine CK.mono (ct_39   g_m125.1 (by unfold rg; decide)) (by omega) ?_
            rintro m131 v131 r_v131 ⟨hx_m131, h_m131⟩
            have g_m131 : RX m0 m131 := RX.tk g_m125 hx_m131 (by omega) (by omega)
            have t125 := ty_19_4 g_m125.1
            have k17 : kC m117 = kC m := kC_eq g_m g_m117
            have s17 : ∀ j, rd m117 3 j = rd m 3 j := st_eq g_m g_m117
            have k25 : kC m125 = kC m := kC_eq g_m g_m125
            have s25 : ∀ j, rd m125 3 j = rd m 3 j := st_eq g_m g_m125
            have au131 : auP m m131 x1 := au_par (by omega) (by omega) (by omega) (by omega) h_m117 k17 s17 (by rw [wx] at h_m125; exact h_m125) k25 s25 h_m131
            exact ⟨g_m131, by first | exact au42 | exact au84 | exact au108 | exact au131⟩
        · skip
          refine CK.mono (ct_36   g_m.1) (by omega) ?_
          rintro m69 v69 r_v69 ⟨e_m69, h_m69⟩
          replace e_m69 := e_m69.symm
          subst e_m69
          try have w3 : wr (v69 - 12) = v69 - 12 := wr_id (by omega) (by omega)
          refine CK.mono (ct_15   g_m.1 lw_20 (by unfold rg; decide) (wr_rg _) (by omega) (by omega) (fun h => by omega) g_m.2.1) (by omega) ?_
          rintro m75 v75 r_v75 ⟨hx_m75, h_m75⟩
          have g_m75 : RX m0 m75 := RX.lw g_m hx_m75 h_m75.1
          have l75 : lwF m m75 := lwF_of hx_m75
          refine CK.mono (ct_36   g_m75.1) (by omega) ?_
          rintro m81 v81 r_v81 ⟨e_m81, h_m81⟩
          replace e_m81 := e_m81.symm
          subst e_m81
          refine CK.mono (ct_39   g_m75.1 r_v81) (by omega) ?_
          rintro m84 v84 r_v84 ⟨hx_m84, h_m84⟩
          have g_m84 : RX m0 m84 := RX.tk g_m75 hx_m84 (by omega) (by omega)
          have au84 : auP m m84 x1 := au_u (k := v81) (v := v84) l75 (by have e := l75.2.2.2.2.2.2.1; have e2 := l75.2.2.2.2.2.1; rw [e2, e] at h_m81; exact h_m81.symm) (Or.inr (by omega)) (by omega) h_m84
          exact ⟨g_m84, by first | exact au42 | exact au84 | exact au108 | exact au131⟩
      · skip
        have t4 := ty_19_4 g_m.1
        refine ⟨⟨by omega, by omega⟩, ?_⟩
        try have w5 : wr (ld m 4 (Int.toNat (rd m 19 4))) = ld m 4 (Int.toNat (rd m 19 4)) := wr_id (by omega) (by omega)
        have tv := g_m.2.2.2.1 (Int.toNat (rd m 19 4)) (by omega) (by omega)
        have wv : wr (ld m 4 (Int.toNat (rd m 19 4))) = ld m 4 (Int.toNat (rd m 19 4)) := wr_id (by omega) (by omega)
        refine CK.mono (ct_15   g_m.1 lw_20 (by unfold rg; decide) (wr_rg _) (by omega) (by omega) (fun h => by omega) g_m.2.1) (by omega) ?_
        rintro m35 v35 r_v35 ⟨hx_m35, h_m35⟩
        have g_m35 : RX m0 m35 := RX.lw g_m hx_m35 h_m35.1
        have l35 : lwF m m35 := lwF_of hx_m35
        refine CK.mono (ct_39   g_m35.1 (by unfold rg; decide)) (by omega) ?_
        rintro m42 v42 r_v42 ⟨hx_m42, h_m42⟩
        have g_m42 : RX m0 m42 := RX.tk g_m35 hx_m42 (by omega) (by omega)
        have au42 : auP m m42 x1 := au_u (k := 22) (v := v42) l35 (by omega) (Or.inl (by omega)) (by omega) h_m42
        exact ⟨g_m42, by first | exact au42 | exact au84 | exact au108 | exact au131⟩
    · intro m_135  hR_135
      obtain ⟨g_m_135, hR_135⟩ := hR_135
      exact ⟨g_m_135, by first | exact hR_135 | exact au_f (by omega)⟩
  · skip
    exact ⟨g_m, by first | exact hR_135 | exact au_f (by omega)⟩
-- TippedCrates$Reader.readProduct(I)V
set_option maxRecDepth 20000 in
theorem cx_48 {m0 m : Mm} {x1 : Int} {D : Nat} (hD : 3 ≤ D) (ih : ∀ {m0 m : Mm} {y : Int} (_ : RX m0 m) (_ : rg y) (_ : 0 ≤ y ∧ y ≤ 7) (_ : y = 7 → ¬ rd m 19 5 = 0) (_ : x1 < y), CV D 47 [.ref 19, iv y] m (fun m2 => RX m0 m2 ∧ suP m m2 y)) (g_m : RX m0 m) (r_x1 : rg x1) (p0 : 0 ≤ x1 ∧ x1 ≤ 7) (p1 : x1 = 7 → ¬ rd m 19 5 = 0) : CV (D + 2) 48 [.ref 19, iv x1] m (fun m2 => RX m0 m2 ∧ (prP m m2 x1)) := by
  refine br_48 (d := (D + 1)) r_x1 ?_
  unfold P_48
  have tt := ty_19_4 g_m.1
  refine CV.mono (cx_49 hD ih g_m r_x1 (by omega) (by omega)) (by omega) ?_
  rintro m2 ⟨g_m2, h_m2⟩
  refine ⟨fun x2_7 m_7 => RX m0 m_7 ∧ ((auP m m_7 x1 ∧ (rd m_7 19 5 = 0 → x2_7 < rd m_7 19 4)) ∧ 0 ≤ x2_7 ∧ x2_7 ≤ 400), fun x2_7 m_7 => Int.toNat (400 - x2_7), ?_, ?_⟩
  · exact ⟨g_m2, by exact ⟨⟨h_m2, fun h => by have := ty_19_4 g_m.1; have := h_m2; unfold auP at this; omega⟩, by omega, by omega⟩⟩
  · intro x2_7 m_7 r_x2_7 hI_7
    obtain ⟨g_m_7, hI_7⟩ := hI_7
    have z7 : rd m_7 19 5 = 0 → rd m 19 5 = 0 := fun h => by
      by_cases q : rd m 19 5 = 0
      · exact q
      · have := hI_7.1.1.2.1 q
        omega
    have t7 := ty_19_4 g_m_7.1
    have k7 : kC m_7 = kC m := kC_eq g_m g_m_7
    have s7 : ∀ j, rd m_7 3 j = rd m 3 j := st_eq g_m g_m_7
    refine ⟨fun m_79 => RX m0 m_79 ∧ (auP m m_79 x1 ∧ (rd m_79 19 5 = 0 → ¬ (kC m (rd m_79 19 4) = 42 ∨ kC m (rd m_79 19 4) = 47))), ?_, ?_⟩
    · skip
      refine ⟨fun hq => ?_, fun hq => ?_⟩
      · skip
        exact ⟨g_m_7, by first | exact ⟨hI_7.1.1, fun h => absurd h (by omega)⟩ | exact ⟨hI_7.1.1, fun h => by rw [← k7]; show ¬ (rd m_7 2 (Int.toNat (rd m_7 19 4)) = 42 ∨ rd m_7 2 (Int.toNat (rd m_7 19 4)) = 47); omega⟩⟩
      · skip
        refine ⟨fun hq => ?_, fun hq => ?_⟩
        · skip
          exact ⟨g_m_7, by first | exact ⟨hI_7.1.1, fun h => absurd h (by omega)⟩ | exact ⟨hI_7.1.1, fun h => by rw [← k7]; show ¬ (rd m_7 2 (Int.toNat (rd m_7 19 4)) = 42 ∨ rd m_7 2 (Int.toNat (rd m_7 19 4)) = 47); omega⟩⟩
        · skip
          refine CK.mono (cx_50   g_m_7.1 (by unfold rg; decide) (by unfold rg; decide)) (by omega) ?_
          rintro m26 v26 r_v26 ⟨e_m26, h_m26⟩
          replace e_m26 := e_m26.symm
          subst e_m26
          refine ⟨fun hq => ?_, fun hq => ?_⟩
          · skip
            exact ⟨g_m_7, by first | exact ⟨hI_7.1.1, fun h => absurd h (by omega)⟩ | exact ⟨hI_7.1.1, fun h => by rw [← k7]; show ¬ (rd m_7 2 (Int.toNat (rd m_7 19 4)) = 42 ∨ rd m_7 2 (Int.toNat (rd m_7 19 4)) = 47); omega⟩⟩
          · skip
            refine CK.mono (ct_36   g_m_7.1) (by omega) ?_
            rintro m33 v33 r_v33 ⟨e_m33, h_m33⟩
            replace e_m33 := e_m33.symm
            subst e_m33
            refine ⟨fun s0_48 => (s0_48 = 6 ∨ s0_48 = 7), ?_, ?_⟩
            · skip
              refine ⟨fun hq => ?_, fun hq => ?_⟩
              · skip
                (first | trivial | omega | (refine ⟨?_, ?_⟩ <;> omega))
              · skip
                (first | trivial | omega | (refine ⟨?_, ?_⟩ <;> omega))
            · intro s0_48 r_s0_48 hR_48
              refine CK.mono (ct_36   g_m_7.1) (by omega) ?_
              rintro m51 v51 r_v51 ⟨e_m51, h_m51⟩
              replace e_m51 := e_m51.symm
              subst e_m51
              refine CK.mono (ct_39   g_m_7.1 r_v51) (by omega) ?_
              rintro m54 v54 r_v54 ⟨hx_m54, h_m54⟩
              have g_m54 : RX m0 m54 := RX.tk g_m_7 hx_m54 (by omega) (by omega)
              refine CV.mono (cx_49 hD ih g_m54 r_x1 (by omega) (by omega)) (by omega) ?_
              rintro m60 ⟨g_m60, h_m60⟩
              refine CK.mono (ct_15   g_m60.1 lw_20 r_s0_48 (by unfold rg; decide) (by omega) (by omega) (fun h => by omega) g_m60.2.1) (by omega) ?_
              rintro m69 v69 r_v69 ⟨hx_m69, h_m69⟩
              have g_m69 : RX m0 m69 := RX.lw g_m60 hx_m69 h_m69.1
              have l69 : lwF m60 m69 := lwF_of hx_m69
              have k54 : kC m54 = kC m := kC_eq g_m g_m54
              have s54 : ∀ j, rd m54 3 j = rd m 3 j := st_eq g_m g_m54
              have au69 : auP m m69 x1 ∧ (rd m69 19 5 = 0 → rd m_7 19 4 + 2 ≤ rd m69 19 4) := au_op hI_7.1.1 (by omega) (by unfold isOp; omega) k7 s7 (by have q : v51 = rd m_7 2 (Int.toNat (rd m_7 19 4)) := h_m51; rw [q] at h_m54; exact h_m54) k54 s54 h_m60 l69
              try have w2 : wr (x2_7 + 1) = x2_7 + 1 := wr_id (by omega) (by omega)
              intro z2_73 e_z2_73
              have r_z2_73 : rg z2_73 := by rw [e_z2_73]; exact wr_rg _
              exact ⟨⟨g_m69, by exact ⟨⟨au69.1, fun h => by have := au69.2 h; omega⟩, by omega, by omega⟩⟩, by (try dsimp only); omega⟩
    · intro m_79  hR_79
      obtain ⟨g_m_79, hR_79⟩ := hR_79
      exact ⟨g_m_79, by exact hR_79⟩
-- TippedCrates$Reader.readSum(I)V
set_option maxRecDepth 20000 in
theorem cx_47s {m0 m : Mm} {x1 : Int} {D : Nat} (hD : 3 ≤ D) (ih : ∀ {m0 m : Mm} {y : Int} (_ : RX m0 m) (_ : rg y) (_ : 0 ≤ y ∧ y ≤ 7) (_ : y = 7 → ¬ rd m 19 5 = 0) (_ : x1 < y), CV D 47 [.ref 19, iv y] m (fun m2 => RX m0 m2 ∧ suP m m2 y)) (g_m : RX m0 m) (r_x1 : rg x1) (p0 : 0 ≤ x1 ∧ x1 ≤ 7) (p1 : x1 = 7 → ¬ rd m 19 5 = 0) : CV (D + 3) 47 [.ref 19, iv x1] m (fun m2 => RX m0 m2 ∧ (suP m m2 x1)) := by
  refine br_47 (d := (D + 2)) r_x1 ?_
  unfold P_47
  have tt := ty_19_4 g_m.1
  refine CV.mono (cx_48 hD ih g_m r_x1 (by omega) (by omega)) (by omega) ?_
  rintro m2 ⟨g_m2, h_m2⟩
  refine ⟨fun x2_7 m_7 => RX m0 m_7 ∧ ((auP m m_7 x1 ∧ (rd m_7 19 5 = 0 → x2_7 < rd m_7 19 4) ∧ (rd m_7 19 5 = 0 → ¬ (kC m (rd m_7 19 4) = 42 ∨ kC m (rd m_7 19 4) = 47))) ∧ 0 ≤ x2_7 ∧ x2_7 ≤ 400), fun x2_7 m_7 => Int.toNat (400 - x2_7), ?_, ?_⟩
  · exact ⟨g_m2, by exact ⟨⟨h_m2.1, fun h => by have := ty_19_4 g_m.1; have := h_m2.1; unfold auP at this; omega, h_m2.2⟩, by omega, by omega⟩⟩
  · intro x2_7 m_7 r_x2_7 hI_7
    obtain ⟨g_m_7, hI_7⟩ := hI_7
    have z7 : rd m_7 19 5 = 0 → rd m 19 5 = 0 := fun h => by
      by_cases q : rd m 19 5 = 0
      · exact q
      · have := hI_7.1.1.2.1 q
        omega
    have t7 := ty_19_4 g_m_7.1
    have k7 : kC m_7 = kC m := kC_eq g_m g_m_7
    have s7 : ∀ j, rd m_7 3 j = rd m 3 j := st_eq g_m g_m_7
    refine ⟨fun m_77 => RX m0 m_77 ∧ (suP m m_77 x1), ?_, ?_⟩
    · skip
      refine ⟨fun hq => ?_, fun hq => ?_⟩
      · skip
        exact ⟨g_m_7, by first | exact ⟨hI_7.1.1, fun h => absurd h (by omega)⟩ | exact ⟨hI_7.1.1, fun h => by have a := hI_7.1.2.2 h; rw [← k7] at a ⊢; have a2 : ¬ (rd m_7 2 (Int.toNat (rd m_7 19 4)) = 42 ∨ rd m_7 2 (Int.toNat (rd m_7 19 4)) = 47) := a; show ¬ isOp (rd m_7 2 (Int.toNat (rd m_7 19 4))); unfold isOp; omega⟩⟩
      · skip
        refine ⟨fun hq => ?_, fun hq => ?_⟩
        · skip
          exact ⟨g_m_7, by first | exact ⟨hI_7.1.1, fun h => absurd h (by omega)⟩ | exact ⟨hI_7.1.1, fun h => by have a := hI_7.1.2.2 h; rw [← k7] at a ⊢; have a2 : ¬ (rd m_7 2 (Int.toNat (rd m_7 19 4)) = 42 ∨ rd m_7 2 (Int.toNat (rd m_7 19 4)) = 47) := a; show ¬ isOp (rd m_7 2 (Int.toNat (rd m_7 19 4))); unfold isOp; omega⟩⟩
        · skip
          refine CK.mono (cx_50   g_m_7.1 (by unfold rg; decide) (by unfold rg; decide)) (by omega) ?_
          rintro m26 v26 r_v26 ⟨e_m26, h_m26⟩
          replace e_m26 := e_m26.symm
          subst e_m26
          refine ⟨fun hq => ?_, fun hq => ?_⟩
          · skip
            exact ⟨g_m_7, by first | exact ⟨hI_7.1.1, fun h => absurd h (by omega)⟩ | exact ⟨hI_7.1.1, fun h => by have a := hI_7.1.2.2 h; rw [← k7] at a ⊢; have a2 : ¬ (rd m_7 2 (Int.toNat (rd m_7 19 4)) = 42 ∨ rd m_7 2 (Int.toNat (rd m_7 19 4)) = 47) := a; show ¬ isOp (rd m_7 2 (Int.toNat (rd m_7 19 4))); unfold isOp; omega⟩⟩
          · skip
            refine CK.mono (ct_36   g_m_7.1) (by omega) ?_
            rintro m33 v33 r_v33 ⟨e_m33, h_m33⟩
            replace e_m33 := e_m33.symm
            subst e_m33
            refine ⟨fun s0_46 => (s0_46 = 4 ∨ s0_46 = 5), ?_, ?_⟩
            · skip
              refine ⟨fun hq => ?_, fun hq => ?_⟩
              · skip
                (first | trivial | omega | (refine ⟨?_, ?_⟩ <;> omega))
              · skip
                (first | trivial | omega | (refine ⟨?_, ?_⟩ <;> omega))
            · intro s0_46 r_s0_46 hR_46
              refine CK.mono (ct_36   g_m_7.1) (by omega) ?_
              rintro m49 v49 r_v49 ⟨e_m49, h_m49⟩
              replace e_m49 := e_m49.symm
              subst e_m49
              refine CK.mono (ct_39   g_m_7.1 r_v49) (by omega) ?_
              rintro m52 v52 r_v52 ⟨hx_m52, h_m52⟩
              have g_m52 : RX m0 m52 := RX.tk g_m_7 hx_m52 (by omega) (by omega)
              refine CV.mono (cx_48 hD ih g_m52 r_x1 (by omega) (by omega)) (by omega) ?_
              rintro m58 ⟨g_m58, h_m58⟩
              refine CK.mono (ct_15   g_m58.1 lw_20 r_s0_46 (by unfold rg; decide) (by omega) (by omega) (fun h => by omega) g_m58.2.1) (by omega) ?_
              rintro m67 v67 r_v67 ⟨hx_m67, h_m67⟩
              have g_m67 : RX m0 m67 := RX.lw g_m58 hx_m67 h_m67.1
              have l67 : lwF m58 m67 := lwF_of hx_m67
              have k52 : kC m52 = kC m := kC_eq g_m g_m52
              have s52 : ∀ j, rd m52 3 j = rd m 3 j := st_eq g_m g_m52
              have tk52 : tkP m_7 m52 (rd m_7 2 (Int.toNat (rd m_7 19 4))) v52 := by have q : v49 = rd m_7 2 (Int.toNat (rd m_7 19 4)) := h_m49; rw [q] at h_m52; exact h_m52
              have au67 : auP m m67 x1 ∧ (rd m67 19 5 = 0 → rd m_7 19 4 + 2 ≤ rd m67 19 4) := au_op hI_7.1.1 (by omega) (by unfold isOp; omega) k7 s7 tk52 k52 s52 h_m58.1 l67
              have np67 : rd m67 19 5 = 0 → ¬ (kC m (rd m67 19 4) = 42 ∨ kC m (rd m67 19 4) = 47) := fun h => by
                have e4 := l67.1
                have e5 := l67.2.1
                rw [e4]
                have := h_m58.2 (by omega)
                rw [k52] at this
                exact this
              try have w2 : wr (x2_7 + 1) = x2_7 + 1 := wr_id (by omega) (by omega)
              intro z2_71 e_z2_71
              have r_z2_71 : rg z2_71 := by rw [e_z2_71]; exact wr_rg _
              exact ⟨⟨g_m67, by exact ⟨⟨au67.1, fun h => by have := au67.2 h; omega, np67⟩, by omega, by omega⟩⟩, by (try dsimp only); omega⟩
    · intro m_77  hR_77
      obtain ⟨g_m_77, hR_77⟩ := hR_77
      exact ⟨g_m_77, by exact hR_77⟩
theorem cx_47n (N : Nat) : ∀ {m0 m : Mm} {x1 : Int} (_ : RX m0 m) (_ : rg x1) (_ : 0 ≤ x1 ∧ x1 ≤ 7) (_ : x1 = 7 → ¬ rd m 19 5 = 0) (_ : Int.toNat (8 - x1) ≤ N), CV (3 * N + 3) 47 [.ref 19, iv x1] m (fun m2 => RX m0 m2 ∧ suP m m2 x1) := by
  induction N with
  | zero => intros; omega
  | succ N ih =>
    intro m0 m x1 g r p0 p1 hN
    exact CV.mono (cx_47s (D := 3 * N + 3) (by omega) (fun g2 r2 q0 q1 q2 => ih g2 r2 q0 q1 (by omega)) g r p0 p1) (by omega) (fun _ h => h)
theorem cx_47 {m0 m : Mm} {x1 : Int} (g : RX m0 m) (r : rg x1) (p0 : 0 ≤ x1 ∧ x1 ≤ 7) (p1 : x1 = 7 → ¬ rd m 19 5 = 0) : CV 33 47 [.ref 19, iv x1] m (fun m2 => RX m0 m2 ∧ suP m m2 x1) :=
  CV.mono (cx_47n 8 g r p0 p1 (by omega)) (by omega) (fun _ h => h)
