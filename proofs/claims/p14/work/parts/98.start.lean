set_option maxRecDepth 100000 in
set_option maxHeartbeats 8000000 in
theorem whole_start {p : Program} {e : Env} {s : State} {m : MethodId} {below : List Frame} {meth : Method} {c : Code} (l : Launch) (hflags : l.flags = flags0) {b L : Nat} {xs : Nat → Int32} (hL : L ≤ 3072) (C0 : lw_At p s m meth c b L xs) : W p l e room_1 s m #[Value.ref b] below meth c s.heap [] 0 0 (lw_Z below #[Value.ref b] s) (entryFrame m ([Value.ref b] : List Value).toArray 4) := by
  obtain ⟨hx, hb, hr, hml, hown, hts, hXs, hbl, hlk, hgv⟩ := C0
  have hg := flat_of_before _ hgv
  have hA0 : ∀ a : Nat, a < s.heap.size → ¬ (s.heap.size ≤ a) := fun a h q => by omega
  obtain ⟨dq, hdq⟩ := Classical.axiomOfChoice (ws_cl hts)
  obtain ⟨cA, hcA⟩ := Classical.axiomOfChoice (ws_ar hts)
  obtain ⟨t0, e0, hT0⟩ := va_Tof (tm := (.static "TippedCrates" "COMES_BENEATH" "[I")) (ty := .int) (N := 4) (f := fun q => .int ((mm_sl.getD 0 []).getD q 0)) (A := fun q => s.heap.size ≤ q) (by decide) (ws_at hg (i := 10) (by decide +kernel)) (va_eqt (ws_at hg (i := 11) (by decide +kernel))) (fun j hj => va_eqt (ws_at hg (ws_e0 j hj))) hA0
  have hZ0 := va_Zref (A := fun q => s.heap.size ≤ q) (ws_tb hts (i := 413) (by decide +kernel)) (ws_tb hts (i := 117) (by decide +kernel)) e0 hA0
  obtain ⟨t1, e1, hT1⟩ := va_Tof (tm := (.static "TippedCrates" "COMES_TOP" "[I")) (ty := .int) (N := 4) (f := fun q => .int ((mm_sl.getD 1 []).getD q 0)) (A := fun q => s.heap.size ≤ q) (by decide) (ws_at hg (i := 17) (by decide +kernel)) (va_eqt (ws_at hg (i := 18) (by decide +kernel))) (fun j hj => va_eqt (ws_at hg (ws_e1 j hj))) hA0
  have hZ1 := va_Zref (A := fun q => s.heap.size ≤ q) (ws_tb hts (i := 415) (by decide +kernel)) (ws_tb hts (i := 117) (by decide +kernel)) e1 hA0
  obtain ⟨t2, e2, hT2⟩ := va_Tof (tm := (.static "TippedCrates" "STEP_X" "[I")) (ty := .int) (N := 4) (f := fun q => .int ((mm_sl.getD 2 []).getD q 0)) (A := fun q => s.heap.size ≤ q) (by decide) (ws_at hg (i := 24) (by decide +kernel)) (va_eqt (ws_at hg (i := 25) (by decide +kernel))) (fun j hj => va_eqt (ws_at hg (ws_e2 j hj))) hA0
  have hZ2 := va_Zref (A := fun q => s.heap.size ≤ q) (ws_tb hts (i := 832) (by decide +kernel)) (ws_tb hts (i := 117) (by decide +kernel)) e2 hA0
  obtain ⟨t3, e3, hT3⟩ := va_Tof (tm := (.static "TippedCrates" "STEP_Y" "[I")) (ty := .int) (N := 4) (f := fun q => .int ((mm_sl.getD 3 []).getD q 0)) (A := fun q => s.heap.size ≤ q) (by decide) (ws_at hg (i := 31) (by decide +kernel)) (va_eqt (ws_at hg (i := 32) (by decide +kernel))) (fun j hj => va_eqt (ws_at hg (ws_e3 j hj))) hA0
  have hZ3 := va_Zref (A := fun q => s.heap.size ≤ q) (ws_tb hts (i := 834) (by decide +kernel)) (ws_tb hts (i := 117) (by decide +kernel)) e3 hA0
  obtain ⟨t4, e4, hT4⟩ := va_Tof (tm := (.static "TippedCrates" "TENS" "[I")) (ty := .int) (N := 7) (f := fun q => .int ((mm_sl.getD 4 []).getD q 0)) (A := fun q => s.heap.size ≤ q) (by decide) (ws_at hg (i := 38) (by decide +kernel)) (va_eqt (ws_at hg (i := 39) (by decide +kernel))) (fun j hj => va_eqt (ws_at hg (ws_e4 j hj))) hA0
  have hZ4 := va_Zref (A := fun q => s.heap.size ≤ q) (ws_tb hts (i := 1163) (by decide +kernel)) (ws_tb hts (i := 117) (by decide +kernel)) e4 hA0
  have hZc := va_Zof (C := "java/lang/String") (n := "COMPACT_STRINGS") (d := "Z") (v := .int 1) (A := fun q => s.heap.size ≤ q) (ws_tb hts (i := 162) (by decide +kernel)) (ws_tb hts (i := 119) (by decide +kernel)) (va_eqt (ws_at hg (i := 4) (by decide +kernel))) hA0
  have hZq := va_Zqof (C := "jdk/internal/util/Preconditions") (n := "SIOOBE_FORMATTER") (d := "Ljava/util/function/BiFunction;") (A := fun q => s.heap.size ≤ q) (ws_tb hts (i := 178) (by decide +kernel)) (ws_tb hts (i := 121) (by decide +kernel)) (ws_at hg (i := 5) (by decide +kernel)) hA0
  obtain ⟨tq, nq, hZq⟩ : ∃ tq nq : Nat, va_Z "jdk/internal/util/Preconditions" "SIOOBE_FORMATTER" "Ljava/util/function/BiFunction;" (if nq = 0 then .null else .ref tq) (fun q => s.heap.size ≤ q) s s.heap := by
    rcases hZq with h | ⟨t, h⟩
    · exact ⟨0, 0, h⟩
    · exact ⟨t, 1, h⟩
  obtain ⟨adK, adV, hS, hSe⟩ := vk_Sof (N := 2) (tm := fun i => match i with | 0 => Term.string "TippedCrates$Tape" 27 | _ => Term.string "TippedCrates$Tape" 70) (len := mm_sb.map List.length) (byt := mm_sb) (A := fun q => s.heap.size ≤ q) (fun i hi => match i, hi with | 0, _ => by decide | 1, _ => by decide | i + 2, h => absurd h (by omega)) (fun i hi => match i, hi with | 0, _ => ws_at hg (i := 47) (by decide +kernel) | 1, _ => ws_at hg (i := 165) (by decide +kernel) | i + 2, h => absurd h (by omega)) (fun i hi => match i, hi with | 0, _ => ws_at hg (i := 48) (by decide +kernel) | 1, _ => ws_at hg (i := 166) (by decide +kernel) | i + 2, h => absurd h (by omega)) (fun i hi => match i, hi with | 0, _ => ws_at hg (i := 49) (by decide +kernel) | 1, _ => ws_at hg (i := 167) (by decide +kernel) | i + 2, h => absurd h (by omega)) (fun i hi => match i, hi with | 0, _ => ws_at hg (i := 50) (by decide +kernel) | 1, _ => ws_at hg (i := 168) (by decide +kernel) | i + 2, h => absurd h (by omega)) (fun i hi => match i, hi with | 0, _ => fun j hj => ws_at hg (ws_s0 j hj) | 1, _ => fun j hj => ws_at hg (ws_s1 j hj) | i + 2, h => absurd h (by omega)) (fun i j hi hj hij => match i, j, hi, hj, hij with | 0, 1, _, _, _ => Or.inl (ws_at hg (i := 178) (by decide +kernel)) | 1, 0, _, _, _ => Or.inr (ws_at hg (i := 178) (by decide +kernel)) | 0, 0, _, _, h => absurd rfl h | 1, 1, _, _, h => absurd rfl h | i + 2, _, h, _, _ => absurd h (by omega) | _, j + 2, _, h, _ => absurd h (by omega)) hA0
  let f : Nat → Nat := fun i => if i < 1000 then s.heap.size + i else if i < 1100 then [t0, t1, t2, t3, t4].getD (i - 1000) 0 else if i < 1200 then adK (i - 1100) else if i < 1300 then adV (i - 1200) else if i = 1300 then tq else if i = 1301 then nq else b
  have hf : ∀ i, i < 512 → f i = f 0 + i := fun i hi => by
    show (if i < 1000 then s.heap.size + i else _) = (s.heap.size + 0) + i
    rw [if_pos (by omega)]
    omega
  let D : va_G := (fun c => (dq c).1, fun c => (dq c).2)
  have hK : va_K D mm_cl [] s := ⟨fun c q h => hdq c q h, fun k q h => by cases h⟩
  have hAr : mm_Ar cA s := fun ty h => hcA ty h
  have hXt : mm_Xt f mm_xt s := fun j xs h => match j, h with
    | 0, h => by cases h; exact hT0
    | 1, h => by cases h; exact hT1
    | 2, h => by cases h; exact hT2
    | 3, h => by cases h; exact hT3
    | 4, h => by cases h; exact hT4
    | j + 5, h => by cases h
  have hZs : ∀ (j : Nat) (n : String), mm_sn[j]? = some n → va_Z "TippedCrates" n "[I" (.ref (f (1000 + j))) (fun q => f 0 ≤ q) s s.heap := fun j n h => match j, h with
    | 0, h => by cases h; exact hZ0
    | 1, h => by cases h; exact hZ1
    | 2, h => by cases h; exact hZ2
    | 3, h => by cases h; exact hZ3
    | 4, h => by cases h; exact hZ4
    | j + 5, h => by cases h
  have eK : ∀ i, i < 2 → f (1100 + i) = adK i := fun i hi => match i, hi with
    | 0, _ => rfl
    | 1, _ => rfl
    | i + 2, h => absurd h (by omega)
  have eV : ∀ i, i < 2 → f (1200 + i) = adV i := fun i hi => match i, hi with
    | 0, _ => rfl
    | 1, _ => rfl
    | i + 2, h => absurd h (by omega)
  have hTx : mm_Tx f mm_sb s := by
    refine ⟨fun i hi => ?_, fun i j hi hj e => ?_⟩
    · have h := hS.1 i hi
      show va_O "java/lang/String" (f (1100 + i)) _ s s.heap ∧ va_OF "java/lang/String" "coder" "B" (.int 0) (f (1100 + i)) _ s s.heap ∧ va_OF "java/lang/String" "value" "[B" (.ref (f (1200 + i))) (f (1100 + i)) _ s s.heap ∧ va_T .byte (f (1200 + i)) _ _ _ s s.heap
      rw [eK i hi, eV i hi]
      exact h
    · have e : f (1100 + i) = f (1100 + j) := e
      rw [eK i hi, eK j hj] at e
      exact hS.2 i j hi hj e
  have hR0 : vk_R "TippedCrates$Tape" 27 "yard shut paint crate prints takes costs slips seed if then else left top flag over beneath tips minute which way " (f (1100 + 0)) s := vk_R.of (ws_tb hts (i := 152) (by decide +kernel)) (hSe 0 (by decide))
  have hR1 : vk_R "TippedCrates$Tape" 70 ";=+-*/<()" (f (1100 + 1)) s := vk_R.of (ws_tb hts (i := 671) (by decide +kernel)) (hSe 1 (by decide))
  have hEX : mm_EX f D cA s := ⟨hK, hAr, hXt, hZs, hZc, hZq, hTx, hR0, hR1, va_AO.of (ws_tb hts (i := 558) (by decide +kernel)), va_Nw.of rfl (ws_tb hts (i := 947) (by decide +kernel)), va_Nw.of rfl (ws_tb hts (i := 948) (by decide +kernel)), va_Nw.of rfl (ws_tb hts (i := 957) (by decide +kernel)), va_Nw.of rfl (ws_tb hts (i := 958) (by decide +kernel)), va_Nw.of rfl (ws_tb hts (i := 1003) (by decide +kernel)), va_Nw.of rfl (ws_tb hts (i := 560) (by decide +kernel)), va_Nw.of rfl (ws_tb hts (i := 244) (by decide +kernel)), va_Nw.of rfl (ws_tb hts (i := 831) (by decide +kernel)), va_Nw.of rfl (ws_tb hts (i := 833) (by decide +kernel)), va_Nw.of rfl (ws_tb hts (i := 835) (by decide +kernel)), va_Nw.of rfl (ws_tb hts (i := 330) (by decide +kernel)), va_Nw.of rfl (ws_tb hts (i := 747) (by decide +kernel)), va_Nw.of rfl (ws_tb hts (i := 1172) (by decide +kernel)), va_Nw.of rfl (ws_tb hts (i := 409) (by decide +kernel)), va_Nw.of rfl (ws_tb hts (i := 238) (by decide +kernel)), va_Nw.of rfl (ws_tb hts (i := 619) (by decide +kernel)), trivial⟩
  let ys : List Int32 := (List.range L).map xs
  have hyl : ys.length = L := by simp [ys]
  have hXl : mm_Xt f (mm_xl ys) s := by
    intro j zs h
    have hj : j = 400 ∧ ys = zs := by
      unfold mm_xl at h
      cases hq : Nat.beq j 400 with
      | false => rw [hq] at h; cases h
      | true => rw [hq] at h; exact ⟨Nat.eq_of_beq_eq_true hq, Option.some.inj h⟩
    obtain ⟨rfl, rfl⟩ := hj
    obtain ⟨scr, q1, q2, q3, q4, q5⟩ := hXs
    refine ⟨scr, q1, q2, q3, ?_, ?_, fun i hi => ?_, fun q => hA0 b hbl q⟩
    · rw [hyl, q4]; exact Nat.le_refl _
    · rw [hyl, q4]
    · rw [hyl] at hi
      rw [q5 i hi]
      simp [ys, hi]
  obtain ⟨N, n, h2, rr, erun, rfl, c1, c2⟩ := pure_law ys (by rw [hyl]; exact hL)
  have hFP := mm_all l f D cA hf N 60
  obtain ⟨-, -, kk⟩ := mm_run_ok (sd_law (l := l) (e := e) (below := below) (args := #[Value.ref b]) ys hx hb hml hr hlk hown hts hEX hf hXl) hFP n 0 _ [] (0, 0, mm_no 9) h2 _ erun
  have hR0 : mm_R f D mm_cl cA (0, 0, mm_no 9) s.heap := ⟨rfl, Nat.zero_le _, fun i c hi _ => absurd hi (Nat.not_lt_zero i)⟩
  have k2 := kk (fun _ _ o _ => o = .returned (some (.int 1))) 0 0 (by show 0 + (h2.1 - 0) ≤ room_1.cells; exact Nat.le_trans (by omega) c1) (by show 0 + (h2.2.1 - 0) ≤ room_1.slots; exact Nat.le_trans (by omega) c2) (fun t _ _ _ => rfl) s.heap [] _ hR0 va_S.rf (mm_L.entry (f := f) (as := [.ref 1400]) (n := 4) (by decide))
  rw [lg_entry_eq]
  intro T hT X
  obtain ⟨t, a1, o, b1, b2, b3, J, ⟨g1, g2, g3⟩, g4⟩ := k2 T hT X
  refine ⟨t, a1, o, b1, b2, b3, g1, g2, ?_⟩
  have g5 : ∀ x ∈ J, s.heap.size ≤ x.base := g4
  exact (State.sameButNew.drop_fresh (L := []) (J := J) g3 g5).mono (by show 0 + (h2.1 - 0) ≤ _; exact Nat.le_trans (by omega) c1) (by show 0 + (h2.2.1 - 0) ≤ _; exact Nat.le_trans (by omega) c2)
