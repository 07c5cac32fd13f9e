/-! A state as a row of 51: marks of flags 0 .. 24, faces 25 .. 42, flags of crates 43 .. 45, how often tipped 46 .. 48, minute 49, paid 50; Y: 0 wide, 1 high, 2 shut, 3 crates, 4 seed -/
abbrev Ro : Type := Nat → Int
abbrev Lw : Type := Int → List (Rp × Rp × Rp) × Rp
def ct (k : Int) : Int := if k = 0 then 4 else if k = 1 then 2 else if k = 2 then 5 else 3
def cb (k : Int) : Int := if k = 0 then 5 else if k = 1 then 3 else if k = 2 then 4 else 2
def ro_u (r : Ro) (i : Nat) (v : Int) : Ro := fun j => if j = i then v else r j
theorem ro_eq {r : Ro} {i : Nat} {v : Int} : ro_u r i v i = v := if_pos rfl
theorem ro_ne {r : Ro} {i j : Nat} {v : Int} (h : ¬ j = i) : ro_u r i v j = r j := if_neg h
/-- from where what comes to a place p by a way k -/
def frm (k p : Int) : Int := if p = 0 then ct k else if p = 1 then cb k else if p = ct k then 1 else if p = cb k then 0 else p
def trn (r : Ro) (c k : Int) : Ro := fun j => if 25 + 6 * c ≤ (j : Int) ∧ (j : Int) < 31 + 6 * c then r (Int.toNat (25 + 6 * c + frm k ((j : Int) - 25 - 6 * c))) else r j
def fC (r : Ro) (c : Int) : Int := r (Int.toNat (43 + c))
def nxN (Y : Ro) (f k : Int) : Int := fbyI (Y 0) (Y 1) f k
def canN (Y r : Ro) (c k : Int) : Prop := ¬ nxN Y (fC r c) k = -1 ∧ ¬ anI (srI (Y 2) (nxN Y (fC r c) k)) 1 = 1 ∧ ¬ (1 ≤ Y 3 ∧ r 43 = nxN Y (fC r c) k) ∧ ¬ (2 ≤ Y 3 ∧ r 44 = nxN Y (fC r c) k) ∧ ¬ (3 ≤ Y 3 ∧ r 45 = nxN Y (fC r c) k)
def canB (Y r : Ro) (c k : Int) : Bool := decide (¬ nxN Y (fC r c) k = -1 ∧ ¬ anI (srI (Y 2) (nxN Y (fC r c) k)) 1 = 1 ∧ ¬ (1 ≤ Y 3 ∧ r 43 = nxN Y (fC r c) k) ∧ ¬ (2 ≤ Y 3 ∧ r 44 = nxN Y (fC r c) k) ∧ ¬ (3 ≤ Y 3 ∧ r 45 = nxN Y (fC r c) k))
theorem canB_t {Y r : Ro} {c k : Int} : canB Y r c k = true ↔ canN Y r c k := decide_eq_true_iff
/-- what a law's variables stand for -/
def vaI (Y r : Ro) (c f k ov un i : Int) : Int := if i = 0 then tXI (Y 0) f k else if i = 1 then tYI (Y 0) f k else if i = 2 then (if nxN Y f k = -1 then 0 else r (Int.toNat (nxN Y f k))) else if i = 3 then ov else if i = 4 then un else if i = 5 then r (Int.toNat (46 + c)) else if i = 6 then r 49 else if i = 7 then c else k
def vaN (Y r : Ro) (c k : Int) : Int → Int := vaI Y r c (fC r c) k (r (Int.toNat (25 + 6 * c + ct k))) (r (Int.toNat (25 + 6 * c + cb k)))
def lwN (Y : Ro) (E : Lw) (q : Int) (r : Ro) (c k : Int) : Int := lval (vaN Y r c k) (E q).1 (E q).2
def clI (hi x : Int) : Int := max 0 (min hi x)
/-- a crate is tipped -/
def tiB (Y : Ro) (E : Lw) (r : Ro) (c k : Int) : Ro := ro_u (ro_u (ro_u (trn r c k) (Int.toNat (43 + c)) (nxN Y (fC r c) k)) (Int.toNat (46 + c)) (wr (r (Int.toNat (46 + c)) + 1))) 50 (wr (r 50 + clI 99 (lwN Y E 2 r c k)))
def tiN (Y : Ro) (E : Lw) (r : Ro) (c k : Int) : Ro := if 0 < lwN Y E 0 r c k then ro_u (tiB Y E r c k) (Int.toNat (nxN Y (fC r c) k)) (tiB Y E r c k (Int.toNat (26 + 6 * c))) else if 0 < lwN Y E 1 r c k then ro_u (tiB Y E r c k) (Int.toNat (26 + 6 * c)) (tiB Y E r c k (Int.toNat (nxN Y (fC r c) k))) else tiB Y E r c k
def whN (r : Ro) (c : Int) : Int := wr (wr (8 * r 49) + c)
def slN (Y : Ro) (E : Lw) (S : Int) (r : Ro) (c k w : Int) : Ro := if lotI 100 S (wr (100000 + w)) < clI 100 (lwN Y E 3 r c k) then tiN Y E r c k else r
/-- what a minute does to a crate; to all; minutes -/
def paN (Y : Ro) (E : Lw) (S : Int) (r : Ro) (c : Int) : Ro := if canB Y r c (lotI 4 S (whN r c)) then (if canB Y (tiN Y E r c (lotI 4 S (whN r c))) c (lotI 4 S (whN r c)) then slN Y E S (tiN Y E r c (lotI 4 S (whN r c))) c (lotI 4 S (whN r c)) (whN r c) else tiN Y E r c (lotI 4 S (whN r c))) else r
def psN (Y : Ro) (E : Lw) (S : Int) (r : Ro) : Nat → Ro
  | 0 => r
  | c + 1 => paN Y E S (psN Y E S r c) c
def miN (Y : Ro) (E : Lw) (S : Int) (r : Ro) : Ro := ro_u (psN Y E S r (Int.toNat (Y 3))) 49 (wr (psN Y E S r (Int.toNat (Y 3)) 49 + 1))
def goN (Y : Ro) (E : Lw) (S : Int) (r : Ro) : Nat → Ro
  | 0 => r
  | n + 1 => miN Y E S (goN Y E S r n)
/-- crates stand in the yard; a yard is one -/
def okY (Y : Ro) : Prop := (2 ≤ Y 0 ∧ Y 0 ≤ 5) ∧ (2 ≤ Y 1 ∧ Y 1 ≤ 5) ∧ (0 ≤ Y 3 ∧ Y 3 ≤ 3)
def okR (Y r : Ro) : Prop := ∀ c : Int, 0 ≤ c → c < Y 3 → 0 ≤ fC r c ∧ fC r c < Y 0 * Y 1
theorem yd_div {w h f : Int} (hw : 2 ≤ w ∧ w ≤ 5) (hh : 2 ≤ h ∧ h ≤ 5) (hf : 0 ≤ f ∧ f < w * h) : (0 ≤ f % w ∧ f % w < w) ∧ (0 ≤ f / w ∧ f / w < h) ∧ w * (f / w) + f % w = f := by
  have h1 : w = 2 ∨ w = 3 ∨ w = 4 ∨ w = 5 := by omega
  have h2 : h = 2 ∨ h = 3 ∨ h = 4 ∨ h = 5 := by omega
  rcases h1 with rfl | rfl | rfl | rfl <;> rcases h2 with rfl | rfl | rfl | rfl <;> omega
theorem nx_b {Y : Ro} (y : okY Y) {f k : Int} (hf : 0 ≤ f ∧ f < Y 0 * Y 1) (hk : 0 ≤ k ∧ k ≤ 3) : nxN Y f k = -1 ∨ ((0 ≤ nxN Y f k ∧ nxN Y f k < Y 0 * Y 1) ∧ ¬ nxN Y f k = f) := by
  obtain ⟨hw, hh, -⟩ := y
  have d := yd_div hw hh hf
  unfold nxN fbyI tXI tYI
  generalize Y 0 = w at *
  generalize Y 1 = h at *
  generalize f % w = x at *
  generalize f / w = z at *
  have h1 : w = 2 ∨ w = 3 ∨ w = 4 ∨ w = 5 := by omega
  have h2 : h = 2 ∨ h = 3 ∨ h = 4 ∨ h = 5 := by omega
  have h3 : k = 0 ∨ k = 1 ∨ k = 2 ∨ k = 3 := by omega
  rcases h1 with rfl | rfl | rfl | rfl <;> rcases h2 with rfl | rfl | rfl | rfl <;> rcases h3 with rfl | rfl | rfl | rfl <;> simp <;> split <;> omega
