/-! The parse as a function over tokens; X 0: kinds, as the class numbers them, X 1: places, X 2: values -/
abbrev Ps : Type := Nat → Nat → Int
abbrev Tk : Type := Nat → Int → Int
def tX (m : Mm) : Tk
  | 0, t => rd m 2 (Int.toNat t)
  | 1, t => rd m 3 (Int.toNat t)
  | _ + 2, t => ld m 4 (Int.toNat t)
/-- row 0: 0 token, 1 fault, 2 its place, 3 later fault, 4 its place, 5 wide, 6 high, 7 seed, 8 shut, 9 paint, 10 crates; rows 1, 2 shut X, Y; 3, 4, 5 paint X, Y, mark; 6, 7 crate X, Y; 8 faces; 9 names -/
def ps_u (s : Ps) (i j : Nat) (v : Int) : Ps := fun a b => if a = i ∧ b = j then v else s a b
def ps_f (s : Ps) (k p : Int) : Ps := ps_u (ps_u s 0 1 k) 0 2 p
def ps_g (s : Ps) (t : Int) : Ps := ps_u s 0 0 t
def ps_l (s : Ps) (k p : Int) : Ps := if s 0 3 = 0 then ps_u (ps_u s 0 3 k) 0 4 p else s
def pF (X : Tk) (k : Int) (s : Ps) : Ps := if s 0 1 = 0 then ps_f s k (X 1 (s 0 0)) else s
def pT (X : Tk) (k : Int) (s : Ps) : Ps := if s 0 1 = 0 then (if X 0 (s 0 0) = k then (if s 0 0 < 400 then ps_g s (s 0 0 + 1) else ps_f s 2 (X 1 (s 0 0))) else ps_f s 1 (X 1 (s 0 0))) else s
def pI (X : Tk) (lo hi : Int) (s : Ps) : Ps := if s 0 1 = 0 then (if X 0 (s 0 0) = 22 then (if s 0 0 < 400 then (if lo ≤ X 2 (s 0 0) ∧ X 2 (s 0 0) ≤ hi then ps_g s (s 0 0 + 1) else ps_l (ps_g s (s 0 0 + 1)) 5 (X 1 (s 0 0))) else ps_f s 2 (X 1 (s 0 0))) else ps_f s 1 (X 1 (s 0 0))) else s
def pS (X : Tk) (s : Ps) : Ps := if s 0 1 = 0 then (if (AU (X 0) (s 0 0) 0 0).1 = 0 then ps_g s (AU (X 0) (s 0 0) 0 0).2 else ps_f s (AU (X 0) (s 0 0) 0 0).1 (X 1 (AU (X 0) (s 0 0) 0 0).2)) else s
/-- data alike -/
def sd (s s2 : Ps) : Prop := ∀ i j : Nat, ¬ (i = 0 ∧ j ≤ 4) → s2 i j = s i j
theorem sd_r (s : Ps) : sd s s := fun _ _ _ => rfl
theorem sd_t {a b c : Ps} (h : sd a b) (k : sd b c) : sd a c := fun i j q => (k i j q).trans (h i j q)
theorem sd_u {s : Ps} {k : Nat} {v : Int} (h : k ≤ 4) : sd s (ps_u s 0 k v) := fun i j q => if_neg (fun w => q ⟨w.1, by omega⟩)
theorem sd_f {s : Ps} {k p : Int} : sd s (ps_f s k p) := sd_t (sd_u (by decide)) (sd_u (by decide))
theorem sd_g {s : Ps} {t : Int} : sd s (ps_g s t) := sd_u (by decide)
theorem sd_l {s : Ps} {k p : Int} : sd s (ps_l s k p) := by
  unfold ps_l
  split
  · exact sd_t (sd_u (by decide)) (sd_u (by decide))
  · exact sd_r _
theorem sd_F {X : Tk} {k : Int} {s : Ps} : sd s (pF X k s) := by
  unfold pF
  split
  · exact sd_f
  · exact sd_r _
theorem sd_T {X : Tk} {k : Int} {s : Ps} : sd s (pT X k s) := by
  unfold pT
  split
  · split
    · split
      · exact sd_g
      · exact sd_f
    · exact sd_f
  · exact sd_r _
theorem sd_I {X : Tk} {lo hi : Int} {s : Ps} : sd s (pI X lo hi s) := by
  unfold pI
  split
  · split
    · split
      · split
        · exact sd_g
        · exact sd_t sd_g sd_l
      · exact sd_f
    · exact sd_f
  · exact sd_r _
theorem sd_S {X : Tk} {s : Ps} : sd s (pS X s) := by
  unfold pS
  split
  · split
    · exact sd_g
    · exact sd_f
  · exact sd_r _
theorem pF_z {X : Tk} {k : Int} {s : Ps} (h : pF X k s 0 1 = 0) : s 0 1 = 0 := by
  by_cases z : s 0 1 = 0
  · exact z
  · unfold pF at h; rw [if_neg z] at h; exact h
theorem pT_z {X : Tk} {k : Int} {s : Ps} (h : pT X k s 0 1 = 0) : s 0 1 = 0 := by
  by_cases z : s 0 1 = 0
  · exact z
  · unfold pT at h; rw [if_neg z] at h; exact h
theorem pI_z {X : Tk} {lo hi : Int} {s : Ps} (h : pI X lo hi s 0 1 = 0) : s 0 1 = 0 := by
  by_cases z : s 0 1 = 0
  · exact z
  · unfold pI at h; rw [if_neg z] at h; exact h
theorem pS_z {X : Tk} {s : Ps} (h : pS X s 0 1 = 0) : s 0 1 = 0 := by
  by_cases z : s 0 1 = 0
  · exact z
  · unfold pS at h; rw [if_neg z] at h; exact h
/-- control: fault, its place, token, later fault, its place -/
def cR (s : Ps) (f p t w q : Int) : Prop := f = s 0 1 ∧ (¬ s 0 1 = 0 → p = s 0 2) ∧ (s 0 1 = 0 → t = s 0 0 ∧ w = s 0 3 ∧ (¬ s 0 3 = 0 → q = s 0 4))
theorem cR_fl {s : Ps} {k p t w q : Int} (hk : ¬ k = 0) : cR (ps_f s k p) k p t w q := ⟨rfl, fun _ => rfl, fun z => absurd z hk⟩
theorem cR_fz {s : Ps} {f p t w q f2 p2 t2 w2 q2 : Int} (h : cR s f p t w q) (z : ¬ s 0 1 = 0) (e5 : f2 = f) (e0 : p2 = p) : cR s f2 p2 t2 w2 q2 := ⟨e5.trans h.1, fun y => e0.trans (h.2.1 y), fun y => absurd y z⟩
theorem cR_go {s : Ps} {f p t w q t2 : Int} (h : cR s f p t w q) (z : s 0 1 = 0) : cR (ps_g s t2) f p t2 w q := ⟨h.1, h.2.1, fun _ => ⟨rfl, (h.2.2 z).2⟩⟩
theorem cR_la {s : Ps} {f p t w q k pl w2 q2 : Int} (h : cR s f p t w q) (hk : ¬ k = 0) (z : s 0 1 = 0) (c : (w = 0 ∧ w2 = k ∧ q2 = pl) ∨ (¬ w = 0 ∧ w2 = w ∧ q2 = q)) : cR (ps_l s k pl) f p t w2 q2 := by
  have a := h.2.2 z
  unfold ps_l
  rcases c with ⟨c1, c2, c3⟩ | ⟨c1, c2, c3⟩
  · rw [if_pos (a.2.1.symm.trans c1)]
    exact ⟨h.1, h.2.1, fun _ => ⟨a.1, c2, fun _ => c3⟩⟩
  · rw [if_neg (fun y => c1 (a.2.1.trans y))]
    exact ⟨h.1, h.2.1, fun _ => ⟨a.1, c2.trans a.2.1, fun y => c3.trans (a.2.2 y)⟩⟩
/-- steps, neutrally: kd, pl, vl are the token's -/
def stT (k kd pl f p t w q f2 p2 t2 w2 q2 : Int) : Prop := (¬ f = 0 ∧ f2 = f ∧ p2 = p) ∨ (f = 0 ∧ kd = k ∧ t < 400 ∧ f2 = 0 ∧ t2 = t + 1 ∧ w2 = w ∧ q2 = q) ∨ (f = 0 ∧ ((kd = k ∧ t = 400 ∧ f2 = 2) ∨ (¬ kd = k ∧ f2 = 1)) ∧ p2 = pl)
theorem c_T {X : Tk} {s : Ps} {k kd pl f p t w q f2 p2 t2 w2 q2 : Int} (h : cR s f p t w q) (ek : f = 0 → (kd = k ↔ X 0 t = k)) (ep : f = 0 → pl = X 1 t) (st : stT k kd pl f p t w q f2 p2 t2 w2 q2) : cR (pT X k s) f2 p2 t2 w2 q2 := by
  unfold pT
  by_cases z : s 0 1 = 0
  · have a := h.2.2 z
    have fz : f = 0 := h.1.trans z
    rw [if_pos z, ← a.1]
    rcases st with ⟨y, -⟩ | ⟨-, q1, q2, q3, q4, q5, q6⟩ | ⟨-, q1, q2⟩
    · exact absurd fz y
    · rw [if_pos ((ek fz).mp q1), if_pos q2]
      subst q4 q5 q6
      have := cR_go (t2 := t + 1) h z
      rw [fz] at this
      rw [q3]
      exact ⟨this.1, fun y => absurd z y, this.2.2⟩
    · rcases q1 with ⟨w1, w2, w3⟩ | ⟨w1, w3⟩
      · rw [if_pos ((ek fz).mp w1), if_neg (by omega), w3, q2, ep fz]
        exact cR_fl (by decide)
      · rw [if_neg (fun y => w1 ((ek fz).mpr y)), w3, q2, ep fz]
        exact cR_fl (by decide)
  · rw [if_neg z]
    have fz : ¬ f = 0 := fun y => z (h.1.symm.trans y)
    rcases st with ⟨-, q1, q2⟩ | ⟨y, -⟩ | ⟨y, -⟩
    · exact cR_fz h z q1 q2
    · exact absurd y fz
    · exact absurd y fz
def stI (lo hi kd pl vl v f p t w q f2 p2 t2 w2 q2 : Int) : Prop := (¬ f = 0 ∧ f2 = f ∧ p2 = p) ∨ (f = 0 ∧ kd = 22 ∧ t < 400 ∧ f2 = 0 ∧ t2 = t + 1 ∧ v = vl ∧ ((lo ≤ v ∧ v ≤ hi ∧ w2 = w ∧ q2 = q) ∨ (¬ (lo ≤ v ∧ v ≤ hi) ∧ ((w = 0 ∧ w2 = 5 ∧ q2 = pl) ∨ (¬ w = 0 ∧ w2 = w ∧ q2 = q))))) ∨ (f = 0 ∧ ((kd = 22 ∧ t = 400 ∧ f2 = 2) ∨ (¬ kd = 22 ∧ f2 = 1)) ∧ p2 = pl)
theorem c_I {X : Tk} {s : Ps} {lo hi kd pl vl v f p t w q f2 p2 t2 w2 q2 : Int} (h : cR s f p t w q) (ek : f = 0 → (kd = 22 ↔ X 0 t = 22)) (ep : f = 0 → pl = X 1 t) (ev : f = 0 → kd = 22 → vl = X 2 t) (st : stI lo hi kd pl vl v f p t w q f2 p2 t2 w2 q2) : cR (pI X lo hi s) f2 p2 t2 w2 q2 ∧ (pI X lo hi s 0 1 = 0 → v = X 2 (s 0 0)) := by
  by_cases z : s 0 1 = 0
  · have a := h.2.2 z
    have fz : f = 0 := h.1.trans z
    have e : pI X lo hi s = (if X 0 t = 22 then (if t < 400 then (if lo ≤ X 2 t ∧ X 2 t ≤ hi then ps_g s (t + 1) else ps_l (ps_g s (t + 1)) 5 (X 1 t)) else ps_f s 2 (X 1 t)) else ps_f s 1 (X 1 t)) := by
      unfold pI
      rw [if_pos z, ← a.1]
    rw [e, ← a.1]
    rcases st with ⟨y, -⟩ | ⟨-, q1, q2, q3, q4, q5, q6⟩ | ⟨-, q1, q2⟩
    · exact absurd fz y
    · have v2 := q5.trans (ev fz q1)
      rw [if_pos ((ek fz).mp q1), if_pos q2, ← v2]
      refine ⟨?_, fun _ => rfl⟩
      subst q4
      have c := cR_go (t2 := t + 1) h z
      have f0 : f2 = f := by omega
      rcases q6 with ⟨w1, w2, w3, w4⟩ | ⟨w1, w2⟩
      · rw [if_pos ⟨w1, w2⟩, f0]
        subst w3 w4
        exact ⟨c.1, fun y => absurd z y, c.2.2⟩
      · rw [if_neg w1, ← ep fz, f0]
        have d := cR_la (k := 5) (pl := pl) c (by decide) z w2
        refine ⟨d.1, fun y => absurd ?_ y, d.2.2⟩
        rw [← d.1]
        exact fz
    · rcases q1 with ⟨w1, w2, w3⟩ | ⟨w1, w3⟩
      · rw [if_pos ((ek fz).mp w1), if_neg (by omega), w3, q2, ep fz]
        exact ⟨cR_fl (by decide), fun y => absurd y (show ¬ (2 : Int) = 0 by decide)⟩
      · rw [if_neg (fun y => w1 ((ek fz).mpr y)), w3, q2, ep fz]
        exact ⟨cR_fl (by decide), fun y => absurd y (show ¬ (1 : Int) = 0 by decide)⟩
  · have fz : ¬ f = 0 := fun y => z (h.1.symm.trans y)
    refine ⟨?_, fun y => absurd (pI_z y) z⟩
    unfold pI
    rw [if_neg z]
    rcases st with ⟨-, q1, q2⟩ | ⟨y, -⟩ | ⟨y, -⟩
    · exact cR_fz h z q1 q2
    · exact absurd y fz
    · exact absurd y fz
def stS (X : Tk) (f p t w q f2 p2 t2 w2 q2 : Int) : Prop := (¬ f = 0 ∧ f2 = f ∧ p2 = p) ∨ (f = 0 ∧ f2 = 0 ∧ AU (X 0) t 0 0 = (0, t2) ∧ w2 = w ∧ q2 = q) ∨ (f = 0 ∧ ¬ f2 = 0 ∧ ∃ tt : Int, AU (X 0) t 0 0 = (f2, tt) ∧ p2 = X 1 tt)
theorem c_S {X : Tk} {s : Ps} {f p t w q f2 p2 t2 w2 q2 : Int} (h : cR s f p t w q) (st : stS X f p t w q f2 p2 t2 w2 q2) : cR (pS X s) f2 p2 t2 w2 q2 := by
  unfold pS
  by_cases z : s 0 1 = 0
  · have a := h.2.2 z
    have fz : f = 0 := h.1.trans z
    rw [if_pos z, ← a.1]
    rcases st with ⟨y, -⟩ | ⟨-, q1, q2, q3, q4⟩ | ⟨-, q1, tt, q2, q3⟩
    · exact absurd fz y
    · rw [q2]
      rw [if_pos (rfl : (((0, t2) : Int × Int)).1 = 0)]
      subst q3 q4
      have := cR_go (t2 := t2) h z
      rw [fz] at this
      rw [q1]
      exact ⟨this.1, fun y => absurd z y, this.2.2⟩
    · rw [q2]
      rw [if_neg (show ¬ (((f2, tt) : Int × Int)).1 = 0 from q1)]
      rw [q3]
      exact cR_fl q1
  · rw [if_neg z]
    have fz : ¬ f = 0 := fun y => z (h.1.symm.trans y)
    rcases st with ⟨-, q1, q2⟩ | ⟨y, -⟩ | ⟨y, -⟩
    · exact cR_fz h z q1 q2
    · exact absurd y fz
    · exact absurd y fz
theorem c_F {X : Tk} {s : Ps} {k pl f p t w q f2 p2 t2 w2 q2 : Int} (h : cR s f p t w q) (hk : ¬ k = 0) (ep : f = 0 → pl = X 1 t) (st : (f = 0 ∧ f2 = k ∧ p2 = pl) ∨ (¬ f = 0 ∧ f2 = f ∧ p2 = p)) : cR (pF X k s) f2 p2 t2 w2 q2 := by
  unfold pF
  by_cases z : s 0 1 = 0
  · have a := h.2.2 z
    have fz : f = 0 := h.1.trans z
    rw [if_pos z, ← a.1]
    rcases st with ⟨-, q1, q2⟩ | ⟨y, -⟩
    · rw [q1, q2, ep fz]
      exact cR_fl hk
    · exact absurd fz y
  · rw [if_neg z]
    have fz : ¬ f = 0 := fun y => z (h.1.symm.trans y)
    rcases st with ⟨y, -⟩ | ⟨-, q1, q2⟩
    · exact absurd y fz
    · exact cR_fz h z q1 q2
/-! whole sentences -/
def pIf (X : Tk) (s : Ps) : Ps := pT X 11 (pS X (pT X 10 (pS X (pT X 60 (pS X (pT X 9 s))))))
def pIfs (X : Tk) : Nat → Ps → Ps
  | 0, s => s
  | n + 1, s => if s 0 1 = 0 ∧ X 0 (s 0 0) = 9 then pIfs X n (pIf X s) else s
def pRm (X : Tk) (s : Ps) : Ps := if s 0 1 = 0 ∧ X 0 (s 0 0) = 9 then ps_f s 2 (X 1 (s 0 0)) else s
def pL (X : Tk) (w : Int) (s : Ps) : Ps := if 4 ≤ w ∧ w ≤ 7 then pS X (pRm X (pIfs X 4 (pT X 61 (pT X w s)))) else pF X 1 s
def pY1 (X : Tk) (s : Ps) : Ps := ps_u (pI X 2 5 (pT X 0 s)) 0 5 (X 2 (pT X 0 s 0 0))
def pYard (X : Tk) (s : Ps) : Ps := ps_u (pI X 2 5 (pY1 X s)) 0 6 (X 2 (pY1 X s 0 0))
def pSeed (X : Tk) (s : Ps) : Ps := ps_u (pI X 0 9999 (pT X 8 s)) 0 7 (X 2 (pT X 8 s 0 0))
def pShut (X : Tk) (s : Ps) : Ps := if 8 ≤ s 0 8 then pF X 2 s else ps_u (ps_u (ps_u (pI X 0 4 (pI X 0 4 (pT X 1 s))) 0 8 (s 0 8 + 1)) 1 (Int.toNat (s 0 8)) (X 2 (pT X 1 s 0 0))) 2 (Int.toNat (s 0 8)) (X 2 (pI X 0 4 (pT X 1 s) 0 0))
def pPaint (X : Tk) (s : Ps) : Ps := if 10 ≤ s 0 9 then pF X 2 s else ps_u (ps_u (ps_u (ps_u (pI X 0 9 (pI X 0 4 (pI X 0 4 (pT X 2 s)))) 0 9 (s 0 9 + 1)) 3 (Int.toNat (s 0 9)) (X 2 (pT X 2 s 0 0))) 4 (Int.toNat (s 0 9)) (X 2 (pI X 0 4 (pT X 2 s) 0 0))) 5 (Int.toNat (s 0 9)) (X 2 (pI X 0 4 (pI X 0 4 (pT X 2 s)) 0 0))
def dupC (f : Nat → Int) (x : Int) : Nat → Int
  | 0 => 0
  | n + 1 => if f n = x then 1 else dupC f x n
def pN (X : Tk) (s : Ps) : Ps := if pT X 21 s 0 1 = 0 ∧ ¬ dupC (s 9) (X 2 (s 0 0)) (Int.toNat (s 0 10)) = 0 then ps_l (pT X 21 s) 3 (X 1 (s 0 0)) else pT X 21 s
def pIs (X : Tk) (s : Ps) : Nat → Ps
  | 0 => s
  | n + 1 => pI X 0 9 (pIs X s n)
def ps_c (s : Ps) (n : Nat) (x y nm : Int) (g : Nat → Int) : Ps := fun a b => if a = 0 ∧ b = 10 then (n : Int) + 1 else if a = 6 ∧ b = n then x else if a = 7 ∧ b = n then y else if a = 9 ∧ b = n then nm else if a = 8 ∧ 6 * n ≤ b ∧ b < 6 * n + 6 then g (b - 6 * n) else s a b
def pC3 (X : Tk) (s : Ps) : Ps := pI X 0 4 (pI X 0 4 (pN X (pT X 3 s)))
def pCrate (X : Tk) (s : Ps) : Ps := if 3 ≤ s 0 10 then pF X 2 s else ps_c (pIs X (pC3 X s) 6) (Int.toNat (s 0 10)) (X 2 (pN X (pT X 3 s) 0 0)) (X 2 (pI X 0 4 (pN X (pT X 3 s)) 0 0)) (X 2 (pT X 3 s 0 0)) (fun j => X 2 (pIs X (pC3 X s) j 0 0))
def pTell (X : Tk) (w : Int) (s : Ps) : Ps := if w = 0 then pYard X s else if w = 1 then pShut X s else if w = 2 then pPaint X s else if w = 3 then pCrate X s else if w = 8 then pSeed X s else pL X w s
def pStep (X : Tk) (s : Ps) : Ps := pT X 59 (pTell X (X 0 (s 0 0)) s)
def pRun (X : Tk) : Nat → Ps → Ps
  | 0, s => s
  | n + 1, s => if s 0 1 = 0 ∧ ¬ X 0 (s 0 0) = 23 then pRun X n (pStep X s) else s
theorem ps_eq {s : Ps} {i j : Nat} {v : Int} : ps_u s i j v i j = v := if_pos ⟨rfl, rfl⟩
theorem ps_ne {s : Ps} {i j a b : Nat} {v : Int} (h : ¬ (a = i ∧ b = j)) : ps_u s i j v a b = s a b := if_neg h
theorem ifs_st {X : Tk} {n : Nat} {s : Ps} (h : s 0 1 = 0 ∧ X 0 (s 0 0) = 9) : pIfs X (n + 1) s = pIfs X n (pIf X s) := if_pos h
theorem ifs_no {X : Tk} {n : Nat} {s : Ps} (h : ¬ (s 0 1 = 0 ∧ X 0 (s 0 0) = 9)) : pIfs X n s = s := by
  cases n with
  | zero => rfl
  | succ n => exact if_neg h
theorem run_st {X : Tk} {n : Nat} {s : Ps} (h : s 0 1 = 0 ∧ ¬ X 0 (s 0 0) = 23) : pRun X (n + 1) s = pRun X n (pStep X s) := if_pos h
theorem run_no {X : Tk} {n : Nat} {s : Ps} (h : ¬ (s 0 1 = 0 ∧ ¬ X 0 (s 0 0) = 23)) : pRun X n s = s := by
  cases n with
  | zero => rfl
  | succ n => exact if_neg h
theorem pT_fz {X : Tk} {k : Int} {s : Ps} (h : ¬ s 0 1 = 0) : pT X k s = s := if_neg h
theorem pS_fz {X : Tk} {s : Ps} (h : ¬ s 0 1 = 0) : pS X s = s := if_neg h
theorem pI_fz {X : Tk} {lo hi : Int} {s : Ps} (h : ¬ s 0 1 = 0) : pI X lo hi s = s := if_neg h
theorem pF_fz {X : Tk} {k : Int} {s : Ps} (h : ¬ s 0 1 = 0) : pF X k s = s := if_neg h
theorem sd_N {X : Tk} {s : Ps} : sd s (pN X s) := by
  unfold pN
  split
  · exact sd_t sd_T sd_l
  · exact sd_T
theorem pl_1 {s : Ps} {k p : Int} : ps_l s k p 0 1 = s 0 1 := by
  unfold ps_l
  split
  · rfl
  · rfl
theorem pN_z {X : Tk} {s : Ps} (h : pN X s 0 1 = 0) : pT X 21 s 0 1 = 0 := by
  unfold pN at h
  split at h
  · rw [pl_1] at h; exact h
  · exact h
theorem sd_Is {X : Tk} {s : Ps} : ∀ n : Nat, sd s (pIs X s n)
  | 0 => sd_r s
  | n + 1 => sd_t (sd_Is n) sd_I
theorem pIs_z {X : Tk} {s : Ps} : ∀ {n : Nat}, pIs X s n 0 1 = 0 → s 0 1 = 0
  | 0, h => h
  | _ + 1, h => pIs_z (pI_z h)
theorem sd_If {X : Tk} {s : Ps} : sd s (pIf X s) := sd_t (sd_t (sd_t (sd_t (sd_t (sd_t sd_T sd_S) sd_T) sd_S) sd_T) sd_S) sd_T
theorem sd_Ifs {X : Tk} : ∀ (n : Nat) (s : Ps), sd s (pIfs X n s)
  | 0, s => sd_r s
  | n + 1, s => by
    show sd s (if s 0 1 = 0 ∧ X 0 (s 0 0) = 9 then pIfs X n (pIf X s) else s)
    split
    · exact sd_t sd_If (sd_Ifs n _)
    · exact sd_r s
