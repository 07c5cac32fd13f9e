/-- steps between two states of the reader, hidden from omega -/
def zst (a b : Mm) (d : Int) : Prop := (rd b 284 13 = 0 → rd a 284 13 = 0 ∧ rd a 284 11 + d ≤ rd b 284 11) ∧ (rd b 284 15 = 0 → rd a 284 15 = 0)
def bdQ (a : Mm) (v lo hi : Int) : Prop := rd a 284 13 = 0 → rd a 284 15 = 0 → lo ≤ v ∧ v ≤ hi
def Hid (p : Prop) : Prop := p
theorem zst_t {a b c : Mm} {d e f : Int} (h : zst a b d) (k : zst b c e) (q : f = d + e := by decide) : zst a c f := by
  refine ⟨fun z => ?_, fun z => h.2 (k.2 z)⟩
  have x := k.1 z
  have y := h.1 x.1
  exact ⟨y.1, by omega⟩
theorem zst_w {a b : Mm} (e11 : rd b 284 11 = rd a 284 11) (e13 : rd b 284 13 = rd a 284 13) (e15 : rd b 284 15 = rd a 284 15) : zst a b 0 := ⟨fun z => ⟨e13.symm.trans z, by omega⟩, fun z => e15.symm.trans z⟩
theorem nf_20 {i j : Nat} (a : ¬ (i = 284 ∧ (j = 11 ∨ j = 13 ∨ j = 14 ∨ j = 15 ∨ j = 16 ∨ j = 20))) : ¬ (i = 284 ∧ (j = 11 ∨ j = 13 ∨ j = 14 ∨ j = 15 ∨ j = 16)) := fun q => a ⟨q.1, by have := q.2; omega⟩
theorem nf_y {i j : Nat} (a : i = 298 ∨ i = 301 ∨ i = 302 ∨ i = 305) : ¬ (i = 284 ∧ (j = 11 ∨ j = 13 ∨ j = 14 ∨ j = 15 ∨ j = 16)) ∧ ¬ (i = 293 ∨ i = 294) := ⟨fun q => by have := q.1; omega, by omega⟩
theorem nf_f {i j : Nat} (a : i = 293 ∨ i = 294 ∨ i = 298 ∨ i = 301 ∨ i = 302 ∨ i = 305) : ¬ (i = 284 ∧ (j = 11 ∨ j = 13 ∨ j = 14 ∨ j = 15 ∨ j = 16)) ∧ ¬ i = 306 ∧ ¬ (295 ≤ i ∧ i ≤ 297) := ⟨fun q => by have := q.1; omega, by omega, by omega⟩
theorem nf_p {i j : Nat} (a : i = 293 ∨ i = 294 ∨ i = 301 ∨ i = 302 ∨ i = 305) : ¬ (i = 284 ∧ (j = 11 ∨ j = 13 ∨ j = 14 ∨ j = 15 ∨ j = 16)) ∧ ¬ (298 ≤ i ∧ i ≤ 300) := ⟨fun q => by have := q.1; omega, by omega⟩
