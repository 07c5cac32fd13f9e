theorem mx_192 {m0 m : Mm} {N : Int} {s : Ps} (g_m : PX m0 m) (p0 : rdI m (rd m0 284 19)) (p1 : rd m 284 13 = 0) (p2 : tkN m0 N) (p3 : RM (tX m0) N (rd m0 284 19) (s) m) : CV 7 192 [.ref 284] m (fun m2 => PX m0 m2 ∧ ((rdP m m2 (rd m0 284 19)) ∧ (RM (tX m0) N (rd m0 284 19) (pStep (tX m0) s) m2))) := by
  by_cases ha : rd m 287 (Int.toNat (rd m 284 11)) = 20
  · exact mx_192a g_m p0 p1 p2 p3 ha
  by_cases hb : rd m 287 (Int.toNat (rd m 284 11)) = 21
  · exact mx_192b g_m p0 p1 p2 p3 hb
  by_cases hc : rd m 287 (Int.toNat (rd m 284 11)) = 22
  · exact mx_192c g_m p0 p1 p2 p3 hc
  by_cases hd : rd m 287 (Int.toNat (rd m 284 11)) = 23
  · exact mx_192d g_m p0 p1 p2 p3 hd
  by_cases he : rd m 287 (Int.toNat (rd m 284 11)) = 24
  · exact mx_192e g_m p0 p1 p2 p3 he
  by_cases hf : rd m 287 (Int.toNat (rd m 284 11)) = 25
  · exact mx_192f g_m p0 p1 p2 p3 hf
  by_cases hg : rd m 287 (Int.toNat (rd m 284 11)) = 26
  · exact mx_192g g_m p0 p1 p2 p3 hg
  by_cases hh : rd m 287 (Int.toNat (rd m 284 11)) = 27
  · exact mx_192h g_m p0 p1 p2 p3 hh
  by_cases hi : rd m 287 (Int.toNat (rd m 284 11)) = 28
  · exact mx_192i g_m p0 p1 p2 p3 hi
  exact mx_192j g_m p0 p1 p2 p3 (by omega)
