set_option maxRecDepth 20000 in
theorem x_crate (a b : Int32) : mm_K 9 127 [.ref 0, .int a, .int b] hM (fun h2 v => h2 = hM ∧ v = some (.int (-1))) := by
  refine mm_K.of rfl ?_
  show mm_W 8 mc_127 0 [some (.ref 0), some (.int a), some (.int b)] [] hM _
  refine w_st (fun _ => rfl) ?_
  refine w_st (fun _ => rfl) ?_
  refine w_ivV (as := [_]) rfl mg_127 rfl rfl rfl rfl ?_
  refine (c_cr _).mono (Nat.le_of_ble_eq_true rfl) ?_
  rintro _ _ ⟨rfl, rfl⟩
  refine w_st (fun _ => rfl) ?_
  refine w_st (fun _ => rfl) ?_
  exact w_rt (fun _ => rfl) ⟨⟨Nat.le_refl _, Nat.le_refl _⟩, rfl, rfl⟩
set_option maxRecDepth 20000 in
theorem y_crate (a b : Int32) : mm_K 9 238 [.ref 284, .int a, .int b] hM (fun h2 v => h2 = hM ∧ v = some (.int (-1))) := by
  refine mm_K.of rfl ?_
  show mm_W 8 mc_238 0 [some (.ref 284), some (.int a), some (.int b)] [] hM _
  refine w_st (fun _ => rfl) ?_
  refine w_st (fun _ => rfl) ?_
  refine w_ivV (as := [_]) rfl mg_238 rfl rfl rfl rfl ?_
  refine (m_cr _).mono (Nat.le_of_ble_eq_true rfl) ?_
  rintro _ _ ⟨rfl, rfl⟩
  refine w_st (fun _ => rfl) ?_
  refine w_st (fun _ => rfl) ?_
  exact w_rt (fun _ => rfl) ⟨⟨Nat.le_refl _, Nat.le_refl _⟩, rfl, rfl⟩
theorem pr_crate (a b : Int32) : p1_pr 127 238 [.int a, .int b] := p1_both (x_crate a b) (y_crate a b)
set_option maxRecDepth 20000 in
theorem x_tells (a b c : Int32) : mm_K 9 128 [.ref 0, .int a, .int b, .int c] hM (fun h2 v => h2 = hM ∧ v = some (.int (-1))) := by
  refine mm_K.of rfl ?_
  show mm_W 8 mc_128 0 [some (.ref 0), some (.int a), some (.int b), some (.int c)] [] hM _
  refine w_st (fun _ => rfl) ?_
  refine w_st (fun _ => rfl) ?_
  refine w_ivV (as := [_]) rfl mg_128 rfl rfl rfl rfl ?_
  refine (c_cr _).mono (Nat.le_of_ble_eq_true rfl) ?_
  rintro _ _ ⟨rfl, rfl⟩
  refine w_st (fun _ => rfl) ?_
  refine w_st (fun _ => rfl) ?_
  exact w_rt (fun _ => rfl) ⟨⟨Nat.le_refl _, Nat.le_refl _⟩, rfl, rfl⟩
set_option maxRecDepth 20000 in
theorem y_tells (a b c : Int32) : mm_K 9 239 [.ref 284, .int a, .int b, .int c] hM (fun h2 v => h2 = hM ∧ v = some (.int (-1))) := by
  refine mm_K.of rfl ?_
  show mm_W 8 mc_239 0 [some (.ref 284), some (.int a), some (.int b), some (.int c)] [] hM _
  refine w_st (fun _ => rfl) ?_
  refine w_st (fun _ => rfl) ?_
  refine w_ivV (as := [_]) rfl mg_239 rfl rfl rfl rfl ?_
  refine (m_cr _).mono (Nat.le_of_ble_eq_true rfl) ?_
  rintro _ _ ⟨rfl, rfl⟩
  refine w_st (fun _ => rfl) ?_
  refine w_st (fun _ => rfl) ?_
  exact w_rt (fun _ => rfl) ⟨⟨Nat.le_refl _, Nat.le_refl _⟩, rfl, rfl⟩
theorem pr_tells (a b c : Int32) : p1_pr 128 239 [.int a, .int b, .int c] := p1_both (x_tells a b c) (y_tells a b c)
set_option maxRecDepth 20000 in
theorem x_fewest (a b c d : Int32) : mm_K 9 133 [.ref 0, .int a, .int b, .int c, .int d] hM (fun h2 v => h2 = hM ∧ v = some (.int (-1))) := by
  refine mm_K.of rfl ?_
  show mm_W 8 mc_133 0 [some (.ref 0), some (.int a), some (.int b), some (.int c), some (.int d)] [] hM _
  refine w_st (fun _ => rfl) ?_
  refine w_st (fun _ => rfl) ?_
  refine w_ivV (as := [_]) rfl mg_133 rfl rfl rfl rfl ?_
  refine (c_cr _).mono (Nat.le_of_ble_eq_true rfl) ?_
  rintro _ _ ⟨rfl, rfl⟩
  refine w_st (fun _ => rfl) ?_
  refine w_st (fun _ => rfl) ?_
  exact w_rt (fun _ => rfl) ⟨⟨Nat.le_refl _, Nat.le_refl _⟩, rfl, rfl⟩
set_option maxRecDepth 20000 in
theorem y_fewest (a b c d : Int32) : mm_K 9 250 [.ref 284, .int a, .int b, .int c, .int d] hM (fun h2 v => h2 = hM ∧ v = some (.int (-1))) := by
  refine mm_K.of rfl ?_
  show mm_W 8 mc_250 0 [some (.ref 284), some (.int a), some (.int b), some (.int c), some (.int d), none, none] [] hM _
  refine w_st (fun _ => rfl) ?_
  refine w_st (fun _ => rfl) ?_
  refine w_ivV (as := [_]) rfl mg_250 rfl rfl rfl rfl ?_
  refine (m_cr _).mono (Nat.le_of_ble_eq_true rfl) ?_
  rintro _ _ ⟨rfl, rfl⟩
  refine w_st (fun _ => rfl) ?_
  refine w_st (fun _ => rfl) ?_
  exact w_rt (fun _ => rfl) ⟨⟨Nat.le_refl _, Nat.le_refl _⟩, rfl, rfl⟩
theorem pr_fewest (a b c d : Int32) : p1_pr 133 250 [.int a, .int b, .int c, .int d] := p1_both (x_fewest a b c d) (y_fewest a b c d)
set_option maxRecDepth 20000 in
theorem x_cheapest (a b : Int32) : mm_K 9 134 [.ref 0, .int a, .int b] hM (fun h2 v => h2 = hM ∧ v = some (.int (-1))) := by
  refine mm_K.of rfl ?_
  show mm_W 8 mc_134 0 [some (.ref 0), some (.int a), some (.int b)] [] hM _
  refine w_st (fun _ => rfl) ?_
  refine w_st (fun _ => rfl) ?_
  refine w_ivV (as := [_]) rfl mg_134 rfl rfl rfl rfl ?_
  refine (c_cr _).mono (Nat.le_of_ble_eq_true rfl) ?_
  rintro _ _ ⟨rfl, rfl⟩
  refine w_st (fun _ => rfl) ?_
  refine w_st (fun _ => rfl) ?_
  exact w_rt (fun _ => rfl) ⟨⟨Nat.le_refl _, Nat.le_refl _⟩, rfl, rfl⟩
set_option maxRecDepth 20000 in
theorem y_cheapest (a b : Int32) : mm_K 9 251 [.ref 284, .int a, .int b] hM (fun h2 v => h2 = hM ∧ v = some (.int (-1))) := by
  refine mm_K.of rfl ?_
  show mm_W 8 mc_251 0 [some (.ref 284), some (.int a), some (.int b), none, none, none, none, none] [] hM _
  refine w_st (fun _ => rfl) ?_
  refine w_st (fun _ => rfl) ?_
  refine w_ivV (as := [_]) rfl mg_251 rfl rfl rfl rfl ?_
  refine (m_cr _).mono (Nat.le_of_ble_eq_true rfl) ?_
  rintro _ _ ⟨rfl, rfl⟩
  refine w_st (fun _ => rfl) ?_
  refine w_st (fun _ => rfl) ?_
  exact w_rt (fun _ => rfl) ⟨⟨Nat.le_refl _, Nat.le_refl _⟩, rfl, rfl⟩
theorem pr_cheapest (a b : Int32) : p1_pr 134 251 [.int a, .int b] := p1_both (x_cheapest a b) (y_cheapest a b)
set_option maxRecDepth 20000 in
theorem x_never (a b : Int32) : mm_K 9 135 [.ref 0, .int a, .int b] hM (fun h2 v => h2 = hM ∧ v = some (.int (-1))) := by
  refine mm_K.of rfl ?_
  show mm_W 8 mc_135 0 [some (.ref 0), some (.int a), some (.int b)] [] hM _
  refine w_st (fun _ => rfl) ?_
  refine w_st (fun _ => rfl) ?_
  refine w_ivV (as := [_]) rfl mg_135 rfl rfl rfl rfl ?_
  refine (c_cr _).mono (Nat.le_of_ble_eq_true rfl) ?_
  rintro _ _ ⟨rfl, rfl⟩
  refine w_st (fun _ => rfl) ?_
  refine w_st (fun _ => rfl) ?_
  exact w_rt (fun _ => rfl) ⟨⟨Nat.le_refl _, Nat.le_refl _⟩, rfl, rfl⟩
set_option maxRecDepth 20000 in
theorem y_never (a b : Int32) : mm_K 9 252 [.ref 284, .int a, .int b] hM (fun h2 v => h2 = hM ∧ v = some (.int (-1))) := by
  refine mm_K.of rfl ?_
  show mm_W 8 mc_252 0 [some (.ref 284), some (.int a), some (.int b), none, none] [] hM _
  refine w_st (fun _ => rfl) ?_
  refine w_st (fun _ => rfl) ?_
  refine w_ivV (as := [_]) rfl mg_252 rfl rfl rfl rfl ?_
  refine (m_cr _).mono (Nat.le_of_ble_eq_true rfl) ?_
  rintro _ _ ⟨rfl, rfl⟩
  refine w_st (fun _ => rfl) ?_
  refine w_st (fun _ => rfl) ?_
  exact w_rt (fun _ => rfl) ⟨⟨Nat.le_refl _, Nat.le_refl _⟩, rfl, rfl⟩
theorem pr_never (a b : Int32) : p1_pr 135 252 [.int a, .int b] := p1_both (x_never a b) (y_never a b)
set_option maxRecDepth 20000 in
theorem x_nearest (a b c : Int32) : mm_K 9 136 [.ref 0, .int a, .int b, .int c] hM (fun h2 v => h2 = hM ∧ v = some (.int (-1))) := by
  refine mm_K.of rfl ?_
  show mm_W 8 mc_136 0 [some (.ref 0), some (.int a), some (.int b), some (.int c)] [] hM _
  refine w_st (fun _ => rfl) ?_
  refine w_st (fun _ => rfl) ?_
  refine w_ivV (as := [_]) rfl mg_136 rfl rfl rfl rfl ?_
  refine (c_cr _).mono (Nat.le_of_ble_eq_true rfl) ?_
  rintro _ _ ⟨rfl, rfl⟩
  refine w_st (fun _ => rfl) ?_
  refine w_st (fun _ => rfl) ?_
  exact w_rt (fun _ => rfl) ⟨⟨Nat.le_refl _, Nat.le_refl _⟩, rfl, rfl⟩
set_option maxRecDepth 20000 in
theorem y_nearest (a b c : Int32) : mm_K 9 253 [.ref 284, .int a, .int b, .int c] hM (fun h2 v => h2 = hM ∧ v = some (.int (-1))) := by
  refine mm_K.of rfl ?_
  show mm_W 8 mc_253 0 [some (.ref 284), some (.int a), some (.int b), some (.int c), none, none, none] [] hM _
  refine w_st (fun _ => rfl) ?_
  refine w_st (fun _ => rfl) ?_
  refine w_ivV (as := [_]) rfl mg_253 rfl rfl rfl rfl ?_
  refine (m_cr _).mono (Nat.le_of_ble_eq_true rfl) ?_
  rintro _ _ ⟨rfl, rfl⟩
  refine w_st (fun _ => rfl) ?_
  refine w_st (fun _ => rfl) ?_
  exact w_rt (fun _ => rfl) ⟨⟨Nat.le_refl _, Nat.le_refl _⟩, rfl, rfl⟩
theorem pr_nearest (a b c : Int32) : p1_pr 136 253 [.int a, .int b, .int c] := p1_both (x_nearest a b c) (y_nearest a b c)
set_option maxRecDepth 20000 in
theorem x_spots (a : Int32) : mm_K 9 137 [.ref 0, .int a] hM (fun h2 v => h2 = hM ∧ v = some (.int (-1))) := by
  refine mm_K.of rfl ?_
  show mm_W 8 mc_137 0 [some (.ref 0), some (.int a)] [] hM _
  refine w_st (fun _ => rfl) ?_
  refine w_st (fun _ => rfl) ?_
  refine w_ivV (as := [_]) rfl mg_137 rfl rfl rfl rfl ?_
  refine (c_cr _).mono (Nat.le_of_ble_eq_true rfl) ?_
  rintro _ _ ⟨rfl, rfl⟩
  refine w_st (fun _ => rfl) ?_
  refine w_st (fun _ => rfl) ?_
  exact w_rt (fun _ => rfl) ⟨⟨Nat.le_refl _, Nat.le_refl _⟩, rfl, rfl⟩
set_option maxRecDepth 20000 in
theorem y_spots (a : Int32) : mm_K 9 254 [.ref 284, .int a] hM (fun h2 v => h2 = hM ∧ v = some (.int (-1))) := by
  refine mm_K.of rfl ?_
  show mm_W 8 mc_254 0 [some (.ref 284), some (.int a)] [] hM _
  refine w_st (fun _ => rfl) ?_
  refine w_st (fun _ => rfl) ?_
  refine w_ivV (as := [_]) rfl mg_254 rfl rfl rfl rfl ?_
  refine (m_cr _).mono (Nat.le_of_ble_eq_true rfl) ?_
  rintro _ _ ⟨rfl, rfl⟩
  refine w_st (fun _ => rfl) ?_
  refine w_st (fun _ => rfl) ?_
  exact w_rt (fun _ => rfl) ⟨⟨Nat.le_refl _, Nat.le_refl _⟩, rfl, rfl⟩
theorem pr_spots (a : Int32) : p1_pr 137 254 [.int a] := p1_both (x_spots a) (y_spots a)
set_option maxRecDepth 20000 in
theorem x_round (a b : Int32) : mm_K 9 138 [.ref 0, .int a, .int b] hM (fun h2 v => h2 = hM ∧ v = some (.int (-1))) := by
  refine mm_K.of rfl ?_
  show mm_W 8 mc_138 0 [some (.ref 0), some (.int a), some (.int b)] [] hM _
  refine w_st (fun _ => rfl) ?_
  refine w_st (fun _ => rfl) ?_
  refine w_ivV (as := [_]) rfl mg_138 rfl rfl rfl rfl ?_
  refine (c_cr _).mono (Nat.le_of_ble_eq_true rfl) ?_
  rintro _ _ ⟨rfl, rfl⟩
  refine w_st (fun _ => rfl) ?_
  refine w_st (fun _ => rfl) ?_
  exact w_rt (fun _ => rfl) ⟨⟨Nat.le_refl _, Nat.le_refl _⟩, rfl, rfl⟩
set_option maxRecDepth 20000 in
theorem y_round (a b : Int32) : mm_K 9 257 [.ref 284, .int a, .int b] hM (fun h2 v => h2 = hM ∧ v = some (.int (-1))) := by
  refine mm_K.of rfl ?_
  show mm_W 8 mc_257 0 [some (.ref 284), some (.int a), some (.int b)] [] hM _
  refine w_st (fun _ => rfl) ?_
  refine w_st (fun _ => rfl) ?_
  refine w_ivV (as := [_]) rfl mg_257 rfl rfl rfl rfl ?_
  refine (m_cr _).mono (Nat.le_of_ble_eq_true rfl) ?_
  rintro _ _ ⟨rfl, rfl⟩
  refine w_st (fun _ => rfl) ?_
  refine w_st (fun _ => rfl) ?_
  exact w_rt (fun _ => rfl) ⟨⟨Nat.le_refl _, Nat.le_refl _⟩, rfl, rfl⟩
theorem pr_round (a b : Int32) : p1_pr 138 257 [.int a, .int b] := p1_both (x_round a b) (y_round a b)
set_option maxRecDepth 20000 in
theorem x_richest (a b c : Int32) : mm_K 9 139 [.ref 0, .int a, .int b, .int c] hM (fun h2 v => h2 = hM ∧ v = some (.int (-1))) := by
  refine mm_K.of rfl ?_
  show mm_W 8 mc_139 0 [some (.ref 0), some (.int a), some (.int b), some (.int c)] [] hM _
  refine w_st (fun _ => rfl) ?_
  refine w_st (fun _ => rfl) ?_
  refine w_ivV (as := [_]) rfl mg_139 rfl rfl rfl rfl ?_
  refine (c_cr _).mono (Nat.le_of_ble_eq_true rfl) ?_
  rintro _ _ ⟨rfl, rfl⟩
  refine w_st (fun _ => rfl) ?_
  refine w_st (fun _ => rfl) ?_
  exact w_rt (fun _ => rfl) ⟨⟨Nat.le_refl _, Nat.le_refl _⟩, rfl, rfl⟩
set_option maxRecDepth 20000 in
theorem y_richest (a b c : Int32) : mm_K 9 261 [.ref 284, .int a, .int b, .int c] hM (fun h2 v => h2 = hM ∧ v = some (.int (-1))) := by
  refine mm_K.of rfl ?_
  show mm_W 8 mc_261 0 [some (.ref 284), some (.int a), some (.int b), some (.int c), none, none] [] hM _
  refine w_st (fun _ => rfl) ?_
  refine w_st (fun _ => rfl) ?_
  refine w_ivV (as := [_]) rfl mg_261 rfl rfl rfl rfl ?_
  refine (m_cr _).mono (Nat.le_of_ble_eq_true rfl) ?_
  rintro _ _ ⟨rfl, rfl⟩
  refine w_st (fun _ => rfl) ?_
  refine w_st (fun _ => rfl) ?_
  exact w_rt (fun _ => rfl) ⟨⟨Nat.le_refl _, Nat.le_refl _⟩, rfl, rfl⟩
theorem pr_richest (a b c : Int32) : p1_pr 139 261 [.int a, .int b, .int c] := p1_both (x_richest a b c) (y_richest a b c)
set_option maxRecDepth 20000 in
theorem x_spell (a b c : Int32) : mm_K 9 140 [.ref 0, .int a, .int b, .int c] hM (fun h2 v => h2 = hM ∧ v = some (.int (-1))) := by
  refine mm_K.of rfl ?_
  show mm_W 8 mc_140 0 [some (.ref 0), some (.int a), some (.int b), some (.int c)] [] hM _
  refine w_st (fun _ => rfl) ?_
  refine w_st (fun _ => rfl) ?_
  refine w_ivV (as := [_]) rfl mg_140 rfl rfl rfl rfl ?_
  refine (c_cr _).mono (Nat.le_of_ble_eq_true rfl) ?_
  rintro _ _ ⟨rfl, rfl⟩
  refine w_st (fun _ => rfl) ?_
  refine w_st (fun _ => rfl) ?_
  exact w_rt (fun _ => rfl) ⟨⟨Nat.le_refl _, Nat.le_refl _⟩, rfl, rfl⟩
set_option maxRecDepth 20000 in
theorem y_spell (a b c : Int32) : mm_K 9 262 [.ref 284, .int a, .int b, .int c] hM (fun h2 v => h2 = hM ∧ v = some (.int (-1))) := by
  refine mm_K.of rfl ?_
  show mm_W 8 mc_262 0 [some (.ref 284), some (.int a), some (.int b), some (.int c), none, none, none, none, none] [] hM _
  refine w_st (fun _ => rfl) ?_
  refine w_st (fun _ => rfl) ?_
  refine w_ivV (as := [_]) rfl mg_262 rfl rfl rfl rfl ?_
  refine (m_cr _).mono (Nat.le_of_ble_eq_true rfl) ?_
  rintro _ _ ⟨rfl, rfl⟩
  refine w_st (fun _ => rfl) ?_
  refine w_st (fun _ => rfl) ?_
  exact w_rt (fun _ => rfl) ⟨⟨Nat.le_refl _, Nat.le_refl _⟩, rfl, rfl⟩
theorem pr_spell (a b c : Int32) : p1_pr 140 262 [.int a, .int b, .int c] := p1_both (x_spell a b c) (y_spell a b c)
set_option maxRecDepth 20000 in
theorem x_game (a b c : Int32) : mm_K 9 141 [.ref 0, .int a, .int b, .int c] hM (fun h2 v => h2 = hM ∧ v = some (.int (-1))) := by
  refine mm_K.of rfl ?_
  show mm_W 8 mc_141 0 [some (.ref 0), some (.int a), some (.int b), some (.int c), none] [] hM _
  refine w_st (fun _ => rfl) ?_
  refine w_st (fun _ => rfl) ?_
  refine w_ivV (as := [_]) rfl mg_141 rfl rfl rfl rfl ?_
  refine (c_cr _).mono (Nat.le_of_ble_eq_true rfl) ?_
  rintro _ _ ⟨rfl, rfl⟩
  refine w_st (fun _ => rfl) ?_
  refine w_st (fun _ => rfl) ?_
  exact w_rt (fun _ => rfl) ⟨⟨Nat.le_refl _, Nat.le_refl _⟩, rfl, rfl⟩
set_option maxRecDepth 20000 in
theorem y_game (a b c : Int32) : mm_K 9 264 [.ref 284, .int a, .int b, .int c] hM (fun h2 v => h2 = hM ∧ v = some (.int (-1))) := by
  refine mm_K.of rfl ?_
  show mm_W 8 mc_264 0 [some (.ref 284), some (.int a), some (.int b), some (.int c), none, none, none, none, none] [] hM _
  refine w_st (fun _ => rfl) ?_
  refine w_st (fun _ => rfl) ?_
  refine w_ivV (as := [_]) rfl mg_264 rfl rfl rfl rfl ?_
  refine (m_cr _).mono (Nat.le_of_ble_eq_true rfl) ?_
  rintro _ _ ⟨rfl, rfl⟩
  refine w_st (fun _ => rfl) ?_
  refine w_st (fun _ => rfl) ?_
  exact w_rt (fun _ => rfl) ⟨⟨Nat.le_refl _, Nat.le_refl _⟩, rfl, rfl⟩
theorem pr_game (a b c : Int32) : p1_pr 141 264 [.int a, .int b, .int c] := p1_both (x_game a b c) (y_game a b c)
set_option maxRecDepth 20000 in
theorem x_tops (a : Int32) : mm_K 9 142 [.ref 0, .int a] hM (fun h2 v => h2 = hM ∧ v = some (.int (-1))) := by
  refine mm_K.of rfl ?_
  show mm_W 8 mc_142 0 [some (.ref 0), some (.int a)] [] hM _
  refine w_st (fun _ => rfl) ?_
  refine w_st (fun _ => rfl) ?_
  refine w_ivV (as := [_]) rfl mg_142 rfl rfl rfl rfl ?_
  refine (c_cr _).mono (Nat.le_of_ble_eq_true rfl) ?_
  rintro _ _ ⟨rfl, rfl⟩
  refine w_st (fun _ => rfl) ?_
  refine w_st (fun _ => rfl) ?_
  exact w_rt (fun _ => rfl) ⟨⟨Nat.le_refl _, Nat.le_refl _⟩, rfl, rfl⟩
set_option maxRecDepth 20000 in
theorem y_tops (a : Int32) : mm_K 9 265 [.ref 284, .int a] hM (fun h2 v => h2 = hM ∧ v = some (.int (-1))) := by
  refine mm_K.of rfl ?_
  show mm_W 8 mc_265 0 [some (.ref 284), some (.int a), none, none] [] hM _
  refine w_st (fun _ => rfl) ?_
  refine w_st (fun _ => rfl) ?_
  refine w_ivV (as := [_]) rfl mg_265 rfl rfl rfl rfl ?_
  refine (m_cr _).mono (Nat.le_of_ble_eq_true rfl) ?_
  rintro _ _ ⟨rfl, rfl⟩
  refine w_st (fun _ => rfl) ?_
  refine w_st (fun _ => rfl) ?_
  exact w_rt (fun _ => rfl) ⟨⟨Nat.le_refl _, Nat.le_refl _⟩, rfl, rfl⟩
theorem pr_tops (a : Int32) : p1_pr 142 265 [.int a] := p1_both (x_tops a) (y_tops a)
set_option maxRecDepth 20000 in
theorem x_beside (a b : Int32) : mm_K 9 143 [.ref 0, .int a, .int b] hM (fun h2 v => h2 = hM ∧ v = some (.int (-1))) := by
  refine mm_K.of rfl ?_
  show mm_W 8 mc_143 0 [some (.ref 0), some (.int a), some (.int b)] [] hM _
  refine w_st (fun _ => rfl) ?_
  refine w_st (fun _ => rfl) ?_
  refine w_ivV (as := [_]) rfl mg_143 rfl rfl rfl rfl ?_
  refine (c_cr _).mono (Nat.le_of_ble_eq_true rfl) ?_
  rintro _ _ ⟨rfl, rfl⟩
  refine w_st (fun _ => rfl) ?_
  refine w_st (fun _ => rfl) ?_
  exact w_rt (fun _ => rfl) ⟨⟨Nat.le_refl _, Nat.le_refl _⟩, rfl, rfl⟩
set_option maxRecDepth 20000 in
theorem y_beside (a b : Int32) : mm_K 9 267 [.ref 284, .int a, .int b] hM (fun h2 v => h2 = hM ∧ v = some (.int (-1))) := by
  refine mm_K.of rfl ?_
  show mm_W 8 mc_267 0 [some (.ref 284), some (.int a), some (.int b), none] [] hM _
  refine w_st (fun _ => rfl) ?_
  refine w_st (fun _ => rfl) ?_
  refine w_ivV (as := [_]) rfl mg_267 rfl rfl rfl rfl ?_
  refine (m_cr _).mono (Nat.le_of_ble_eq_true rfl) ?_
  rintro _ _ ⟨rfl, rfl⟩
  refine w_st (fun _ => rfl) ?_
  refine w_st (fun _ => rfl) ?_
  exact w_rt (fun _ => rfl) ⟨⟨Nat.le_refl _, Nat.le_refl _⟩, rfl, rfl⟩
theorem pr_beside (a b : Int32) : p1_pr 143 267 [.int a, .int b] := p1_both (x_beside a b) (y_beside a b)
set_option maxRecDepth 20000 in
theorem x_alike (a b : Int32) : mm_K 9 144 [.ref 0, .int a, .int b] hM (fun h2 v => h2 = hM ∧ v = some (.int (-1))) := by
  refine mm_K.of rfl ?_
  show mm_W 8 mc_144 0 [some (.ref 0), some (.int a), some (.int b)] [] hM _
  refine w_st (fun _ => rfl) ?_
  refine w_st (fun _ => rfl) ?_
  refine w_ivV (as := [_]) rfl mg_144 rfl rfl rfl rfl ?_
  refine (c_cr _).mono (Nat.le_of_ble_eq_true rfl) ?_
  rintro _ _ ⟨rfl, rfl⟩
  refine w_st (fun _ => rfl) ?_
  refine w_st (fun _ => rfl) ?_
  exact w_rt (fun _ => rfl) ⟨⟨Nat.le_refl _, Nat.le_refl _⟩, rfl, rfl⟩
set_option maxRecDepth 20000 in
theorem y_alike (a b : Int32) : mm_K 9 270 [.ref 284, .int a, .int b] hM (fun h2 v => h2 = hM ∧ v = some (.int (-1))) := by
  refine mm_K.of rfl ?_
  show mm_W 8 mc_270 0 [some (.ref 284), some (.int a), some (.int b), none] [] hM _
  refine w_st (fun _ => rfl) ?_
  refine w_st (fun _ => rfl) ?_
  refine w_ivV (as := [_]) rfl mg_270 rfl rfl rfl rfl ?_
  refine (m_cr _).mono (Nat.le_of_ble_eq_true rfl) ?_
  rintro _ _ ⟨rfl, rfl⟩
  refine w_st (fun _ => rfl) ?_
  refine w_st (fun _ => rfl) ?_
  exact w_rt (fun _ => rfl) ⟨⟨Nat.le_refl _, Nat.le_refl _⟩, rfl, rfl⟩
theorem pr_alike (a b : Int32) : p1_pr 144 270 [.int a, .int b] := p1_both (x_alike a b) (y_alike a b)
set_option maxRecDepth 20000 in
theorem x_looks (a : Int32) : mm_K 9 145 [.ref 0, .int a] hM (fun h2 v => h2 = hM ∧ v = some (.int (-1))) := by
  refine mm_K.of rfl ?_
  show mm_W 8 mc_145 0 [some (.ref 0), some (.int a)] [] hM _
  refine w_st (fun _ => rfl) ?_
  refine w_st (fun _ => rfl) ?_
  refine w_ivV (as := [_]) rfl mg_145 rfl rfl rfl rfl ?_
  refine (c_cr _).mono (Nat.le_of_ble_eq_true rfl) ?_
  rintro _ _ ⟨rfl, rfl⟩
  refine w_st (fun _ => rfl) ?_
  refine w_st (fun _ => rfl) ?_
  exact w_rt (fun _ => rfl) ⟨⟨Nat.le_refl _, Nat.le_refl _⟩, rfl, rfl⟩
set_option maxRecDepth 20000 in
theorem y_looks (a : Int32) : mm_K 9 271 [.ref 284, .int a] hM (fun h2 v => h2 = hM ∧ v = some (.int (-1))) := by
  refine mm_K.of rfl ?_
  show mm_W 8 mc_271 0 [some (.ref 284), some (.int a), none, none, none, none] [] hM _
  refine w_st (fun _ => rfl) ?_
  refine w_st (fun _ => rfl) ?_
  refine w_ivV (as := [_]) rfl mg_271 rfl rfl rfl rfl ?_
  refine (m_cr _).mono (Nat.le_of_ble_eq_true rfl) ?_
  rintro _ _ ⟨rfl, rfl⟩
  refine w_st (fun _ => rfl) ?_
  refine w_st (fun _ => rfl) ?_
  exact w_rt (fun _ => rfl) ⟨⟨Nat.le_refl _, Nat.le_refl _⟩, rfl, rfl⟩
theorem pr_looks (a : Int32) : p1_pr 145 271 [.int a] := p1_both (x_looks a) (y_looks a)
set_option maxRecDepth 20000 in
theorem x_mirror (a : Int32) : mm_K 9 146 [.ref 0, .int a] hM (fun h2 v => h2 = hM ∧ v = some (.int (-1))) := by
  refine mm_K.of rfl ?_
  show mm_W 8 mc_146 0 [some (.ref 0), some (.int a)] [] hM _
  refine w_st (fun _ => rfl) ?_
  refine w_st (fun _ => rfl) ?_
  refine w_ivV (as := [_]) rfl mg_146 rfl rfl rfl rfl ?_
  refine (c_cr _).mono (Nat.le_of_ble_eq_true rfl) ?_
  rintro _ _ ⟨rfl, rfl⟩
  refine w_st (fun _ => rfl) ?_
  refine w_st (fun _ => rfl) ?_
  exact w_rt (fun _ => rfl) ⟨⟨Nat.le_refl _, Nat.le_refl _⟩, rfl, rfl⟩
set_option maxRecDepth 20000 in
theorem y_mirror (a : Int32) : mm_K 9 272 [.ref 284, .int a] hM (fun h2 v => h2 = hM ∧ v = some (.int (-1))) := by
  refine mm_K.of rfl ?_
  show mm_W 8 mc_272 0 [some (.ref 284), some (.int a), none] [] hM _
  refine w_st (fun _ => rfl) ?_
  refine w_st (fun _ => rfl) ?_
  refine w_ivV (as := [_]) rfl mg_272 rfl rfl rfl rfl ?_
  refine (m_cr _).mono (Nat.le_of_ble_eq_true rfl) ?_
  rintro _ _ ⟨rfl, rfl⟩
  refine w_st (fun _ => rfl) ?_
  refine w_st (fun _ => rfl) ?_
  exact w_rt (fun _ => rfl) ⟨⟨Nat.le_refl _, Nat.le_refl _⟩, rfl, rfl⟩
theorem pr_mirror (a : Int32) : p1_pr 146 272 [.int a] := p1_both (x_mirror a) (y_mirror a)
set_option maxRecDepth 20000 in
theorem x_then (a b c : Int32) : mm_K 9 147 [.ref 0, .int a, .int b, .int c] hM (fun h2 v => h2 = hM ∧ v = some (.int (-1))) := by
  refine mm_K.of rfl ?_
  show mm_W 8 mc_147 0 [some (.ref 0), some (.int a), some (.int b), some (.int c)] [] hM _
  refine w_st (fun _ => rfl) ?_
  refine w_st (fun _ => rfl) ?_
  refine w_ivV (as := [_]) rfl mg_147 rfl rfl rfl rfl ?_
  refine (c_cr _).mono (Nat.le_of_ble_eq_true rfl) ?_
  rintro _ _ ⟨rfl, rfl⟩
  refine w_st (fun _ => rfl) ?_
  refine w_st (fun _ => rfl) ?_
  exact w_rt (fun _ => rfl) ⟨⟨Nat.le_refl _, Nat.le_refl _⟩, rfl, rfl⟩
set_option maxRecDepth 20000 in
theorem y_then (a b c : Int32) : mm_K 9 273 [.ref 284, .int a, .int b, .int c] hM (fun h2 v => h2 = hM ∧ v = some (.int (-1))) := by
  refine mm_K.of rfl ?_
  show mm_W 8 mc_273 0 [some (.ref 284), some (.int a), some (.int b), some (.int c)] [] hM _
  refine w_st (fun _ => rfl) ?_
  refine w_st (fun _ => rfl) ?_
  refine w_ivV (as := [_]) rfl mg_273 rfl rfl rfl rfl ?_
  refine (m_cr _).mono (Nat.le_of_ble_eq_true rfl) ?_
  rintro _ _ ⟨rfl, rfl⟩
  refine w_st (fun _ => rfl) ?_
  refine w_st (fun _ => rfl) ?_
  exact w_rt (fun _ => rfl) ⟨⟨Nat.le_refl _, Nat.le_refl _⟩, rfl, rfl⟩
theorem pr_then (a b c : Int32) : p1_pr 147 273 [.int a, .int b, .int c] := p1_both (x_then a b c) (y_then a b c)
set_option maxRecDepth 20000 in
theorem x_year (a b c d : Int32) : mm_K 9 150 [.ref 0, .int a, .int b, .int c, .int d] hM (fun h2 v => h2 = hM ∧ v = some (.int (-1))) := by
  refine mm_K.of rfl ?_
  show mm_W 8 mc_150 0 [some (.ref 0), some (.int a), some (.int b), some (.int c), some (.int d), none, none] [] hM _
  refine w_st (fun _ => rfl) ?_
  refine w_st (fun _ => rfl) ?_
  refine w_ivV (as := [_]) rfl mg_150 rfl rfl rfl rfl ?_
  refine (c_cr _).mono (Nat.le_of_ble_eq_true rfl) ?_
  rintro _ _ ⟨rfl, rfl⟩
  refine w_st (fun _ => rfl) ?_
  refine w_st (fun _ => rfl) ?_
  exact w_rt (fun _ => rfl) ⟨⟨Nat.le_refl _, Nat.le_refl _⟩, rfl, rfl⟩
set_option maxRecDepth 20000 in
theorem y_year (a b c d : Int32) : mm_K 9 276 [.ref 284, .int a, .int b, .int c, .int d] hM (fun h2 v => h2 = hM ∧ v = some (.int (-1))) := by
  refine mm_K.of rfl ?_
  show mm_W 8 mc_276 0 [some (.ref 284), some (.int a), some (.int b), some (.int c), some (.int d), none, none] [] hM _
  refine w_st (fun _ => rfl) ?_
  refine w_st (fun _ => rfl) ?_
  refine w_ivV (as := [_]) rfl mg_276 rfl rfl rfl rfl ?_
  refine (m_cr _).mono (Nat.le_of_ble_eq_true rfl) ?_
  rintro _ _ ⟨rfl, rfl⟩
  refine w_st (fun _ => rfl) ?_
  refine w_st (fun _ => rfl) ?_
  exact w_rt (fun _ => rfl) ⟨⟨Nat.le_refl _, Nat.le_refl _⟩, rfl, rfl⟩
theorem pr_year (a b c d : Int32) : p1_pr 150 276 [.int a, .int b, .int c, .int d] := p1_both (x_year a b c d) (y_year a b c d)
set_option maxRecDepth 20000 in
theorem x_tip (a b : Int32) : mm_K 9 129 [.ref 0, .int a, .int b] hM (fun h2 v => h2 = hM ∧ v = some (.int (-1))) := by
  refine mm_K.of rfl ?_
  show mm_W 8 mc_129 0 [some (.ref 0), some (.int a), some (.int b)] [] hM _
  refine w_st (fun _ => rfl) ?_
  refine w_st (fun _ => rfl) ?_
  refine w_ivV (as := [_]) rfl mg_129 rfl rfl rfl rfl ?_
  refine (c_cr _).mono (Nat.le_of_ble_eq_true rfl) ?_
  rintro _ _ ⟨rfl, rfl⟩
  refine w_st (fun _ => rfl) ?_
  refine w_st (fun _ => rfl) ?_
  exact w_rt (fun _ => rfl) ⟨⟨Nat.le_refl _, Nat.le_refl _⟩, rfl, rfl⟩
set_option maxRecDepth 20000 in
theorem y_tip (a b : Int32) : mm_K 9 241 [.ref 284, .int a, .int b] hM (fun h2 v => h2 = hM ∧ v = some (.int (-1))) := by
  refine mm_K.of rfl ?_
  show mm_W 8 mc_241 0 [some (.ref 284), some (.int a), some (.int b)] [] hM _
  refine w_st (fun _ => rfl) ?_
  refine w_ivV (as := []) rfl mg_241 rfl rfl rfl rfl ?_
  refine (m_co).mono (Nat.le_of_ble_eq_true rfl) ?_
  rintro _ _ ⟨rfl, rfl⟩
  refine w_st (fun _ => rfl) ?_
  refine w_st (fun _ => rfl) ?_
  refine w_ivV (as := [_]) rfl mg_241 rfl rfl rfl rfl ?_
  refine (m_cr _).mono (Nat.le_of_ble_eq_true rfl) ?_
  rintro _ _ ⟨rfl, rfl⟩
  refine w_st (fun _ => rfl) ?_
  refine w_st (fun _ => rfl) ?_
  exact w_rt (fun _ => rfl) ⟨⟨Nat.le_refl _, Nat.le_refl _⟩, rfl, rfl⟩
theorem pr_tip (a b : Int32) : p1_pr 129 241 [.int a, .int b] := p1_both (x_tip a b) (y_tip a b)
set_option maxRecDepth 20000 in
theorem x_rows (a b c d : Int32) : mm_K 9 153 [.ref 0, .int a, .int b, .int c, .int d] hM (fun h2 v => h2 = hM ∧ v = some (.int (-1))) := by
  refine mm_K.of rfl ?_
  show mm_W 8 mc_153 0 [some (.ref 0), some (.int a), some (.int b), some (.int c), some (.int d)] [] hM _
  refine w_st (fun _ => rfl) ?_
  refine w_st (fun _ => rfl) ?_
  refine w_st (fun _ => rfl) ?_
  refine w_st (fun _ => rfl) ?_
  refine w_ivV (as := [_, _, _]) rfl mg_153 rfl rfl rfl rfl ?_
  refine (c_ar _ _ _).mono (Nat.le_of_ble_eq_true rfl) ?_
  rintro _ _ ⟨rfl, rfl⟩
  refine w_st (fun _ => rfl) ?_
  refine w_st (fun _ => rfl) ?_
  exact w_rt (fun _ => rfl) ⟨⟨Nat.le_refl _, Nat.le_refl _⟩, rfl, rfl⟩
set_option maxRecDepth 20000 in
theorem y_rows (a b c d : Int32) : mm_K 9 282 [.ref 284, .int a, .int b, .int c, .int d] hM (fun h2 v => h2 = hM ∧ v = some (.int (-1))) := by
  refine mm_K.of rfl ?_
  show mm_W 8 mc_282 0 [some (.ref 284), some (.int a), some (.int b), some (.int c), some (.int d), none, none, none] [] hM _
  refine w_st (fun _ => rfl) ?_
  refine w_st (fun _ => rfl) ?_
  refine w_st (fun _ => rfl) ?_
  refine w_st (fun _ => rfl) ?_
  refine w_ivV (as := [_, _, _]) rfl mg_282 rfl rfl rfl rfl ?_
  refine (m_as _ _ _).mono (Nat.le_of_ble_eq_true rfl) ?_
  rintro _ _ ⟨rfl, rfl⟩
  refine w_st (fun _ => rfl) ?_
  refine w_st (fun _ => rfl) ?_
  exact w_rt (fun _ => rfl) ⟨⟨Nat.le_refl _, Nat.le_refl _⟩, rfl, rfl⟩
theorem pr_rows (a b c d : Int32) : p1_pr 153 282 [.int a, .int b, .int c, .int d] := p1_both (x_rows a b c d) (y_rows a b c d)
set_option maxRecDepth 20000 in
theorem x_listen (a b c : Int32) : mm_K 9 154 [.ref 0, .int a, .int b, .int c] hM (fun h2 v => h2 = hM ∧ v = some (.int (-1))) := by
  refine mm_K.of rfl ?_
  show mm_W 8 mc_154 0 [some (.ref 0), some (.int a), some (.int b), some (.int c)] [] hM _
  refine w_st (fun _ => rfl) ?_
  refine w_st (fun _ => rfl) ?_
  refine w_st (fun _ => rfl) ?_
  refine w_st (fun _ => rfl) ?_
  refine w_ivV (as := [_, _, _]) rfl mg_154 rfl rfl rfl rfl ?_
  refine (c_ar _ _ _).mono (Nat.le_of_ble_eq_true rfl) ?_
  rintro _ _ ⟨rfl, rfl⟩
  refine w_st (fun _ => rfl) ?_
  refine w_st (fun _ => rfl) ?_
  exact w_rt (fun _ => rfl) ⟨⟨Nat.le_refl _, Nat.le_refl _⟩, rfl, rfl⟩
set_option maxRecDepth 20000 in
theorem y_listen (a b c : Int32) : mm_K 9 283 [.ref 284, .int a, .int b, .int c] hM (fun h2 v => h2 = hM ∧ v = some (.int (-1))) := by
  refine mm_K.of rfl ?_
  show mm_W 8 mc_283 0 [some (.ref 284), some (.int a), some (.int b), some (.int c), none, none, none, none, none, none] [] hM _
  refine w_st (fun _ => rfl) ?_
  refine w_st (fun _ => rfl) ?_
  refine w_st (fun _ => rfl) ?_
  refine w_st (fun _ => rfl) ?_
  refine w_ivV (as := [_, _, _]) rfl mg_283 rfl rfl rfl rfl ?_
  refine (m_as _ _ _).mono (Nat.le_of_ble_eq_true rfl) ?_
  rintro _ _ ⟨rfl, rfl⟩
  refine w_st (fun _ => rfl) ?_
  refine w_st (fun _ => rfl) ?_
  exact w_rt (fun _ => rfl) ⟨⟨Nat.le_refl _, Nat.le_refl _⟩, rfl, rfl⟩
theorem pr_listen (a b c : Int32) : p1_pr 154 283 [.int a, .int b, .int c] := p1_both (x_listen a b c) (y_listen a b c)
set_option maxRecDepth 20000 in
theorem x_flag0 (a b : Int32) (q : ¬ ((0 : Int32) ≤ a ∧ a ≤ 4 * 4 - 1)) : mm_K 9 126 [.ref 0, .int a, .int b] hM (fun h2 v => h2 = hM ∧ v = some (.int (-1))) := by
  refine mm_K.of rfl ?_
  show mm_W 8 mc_126 0 [some (.ref 0), some (.int a), some (.int b), none] [] hM _
  refine w_st (fun _ => rfl) ?_
  refine w_st (fun _ => rfl) ?_
  refine w_ivV (as := [_]) rfl mg_126 rfl rfl rfl rfl ?_
  refine (c_flF q).mono (Nat.le_of_ble_eq_true rfl) ?_
  rintro _ _ ⟨rfl, rfl⟩
  refine w_st (fun _ => rfl) ?_
  refine w_st (fun _ => rfl) ?_
  exact w_rt (fun _ => rfl) ⟨⟨Nat.le_refl _, Nat.le_refl _⟩, rfl, rfl⟩
set_option maxRecDepth 20000 in
theorem y_flag0 (a b : Int32) (q : ¬ ((0 : Int32) ≤ a ∧ a ≤ 4 * 4 - 1)) : mm_K 9 236 [.ref 284, .int a, .int b] hM (fun h2 v => h2 = hM ∧ v = some (.int (-1))) := by
  refine mm_K.of rfl ?_
  show mm_W 8 mc_236 0 [some (.ref 284), some (.int a), some (.int b)] [] hM _
  refine w_st (fun _ => rfl) ?_
  refine w_st (fun _ => rfl) ?_
  refine w_ivV (as := [_]) rfl mg_236 rfl rfl rfl rfl ?_
  refine (m_flF q).mono (Nat.le_of_ble_eq_true rfl) ?_
  rintro _ _ ⟨rfl, rfl⟩
  refine w_st (fun _ => rfl) ?_
  refine w_st (fun _ => rfl) ?_
  exact w_rt (fun _ => rfl) ⟨⟨Nat.le_refl _, Nat.le_refl _⟩, rfl, rfl⟩
theorem pr_flag0 (a b : Int32) (q : ¬ ((0 : Int32) ≤ a ∧ a ≤ 4 * 4 - 1)) : p1_pr 126 236 [.int a, .int b] := p1_both (x_flag0 a b q) (y_flag0 a b q)
set_option maxRecDepth 20000 in
theorem x_flag1 (a b : Int32) (q : (0 : Int32) ≤ a ∧ a ≤ 4 * 4 - 1) (w : b.toInt < 0 ∨ 2 < b.toInt) : mm_K 9 126 [.ref 0, .int a, .int b] hM (fun h2 v => h2 = hM ∧ v = some (.int (-1))) := by
  refine mm_K.of rfl ?_
  show mm_W 8 mc_126 0 [some (.ref 0), some (.int a), some (.int b), none] [] hM _
  refine w_st (fun _ => rfl) ?_
  refine w_st (fun _ => rfl) ?_
  refine w_ivV (as := [_]) rfl mg_126 rfl rfl rfl rfl ?_
  refine (c_flT q).mono (Nat.le_of_ble_eq_true rfl) ?_
  rintro _ _ ⟨rfl, rfl⟩
  refine w_st (fun _ => rfl) ?_
  refine w_st (fun _ => rfl) ?_
  refine w_tswO rfl (w) ?_
  refine w_st (fun _ => rfl) ?_
  exact w_rt (fun _ => rfl) ⟨⟨Nat.le_refl _, Nat.le_refl _⟩, rfl, rfl⟩
set_option maxRecDepth 20000 in
theorem y_flag1 (a b : Int32) (q : (0 : Int32) ≤ a ∧ a ≤ 4 * 4 - 1) (w : b.toInt < 0 ∨ 2 < b.toInt) : mm_K 9 236 [.ref 284, .int a, .int b] hM (fun h2 v => h2 = hM ∧ v = some (.int (-1))) := by
  refine mm_K.of rfl ?_
  show mm_W 8 mc_236 0 [some (.ref 284), some (.int a), some (.int b)] [] hM _
  refine w_st (fun _ => rfl) ?_
  refine w_st (fun _ => rfl) ?_
  refine w_ivV (as := [_]) rfl mg_236 rfl rfl rfl rfl ?_
  refine (m_flT q).mono (Nat.le_of_ble_eq_true rfl) ?_
  rintro _ _ ⟨rfl, rfl⟩
  refine w_st (fun _ => rfl) ?_
  refine w_st (fun _ => rfl) ?_
  refine w_ivV (as := []) rfl mg_236 rfl rfl rfl rfl ?_
  refine (m_co).mono (Nat.le_of_ble_eq_true rfl) ?_
  rintro _ _ ⟨rfl, rfl⟩
  refine w_st (fun _ => rfl) ?_
  refine w_tswO rfl (w) ?_
  refine w_st (fun _ => rfl) ?_
  exact w_rt (fun _ => rfl) ⟨⟨Nat.le_refl _, Nat.le_refl _⟩, rfl, rfl⟩
theorem pr_flag1 (a b : Int32) (q : (0 : Int32) ≤ a ∧ a ≤ 4 * 4 - 1) (w : b.toInt < 0 ∨ 2 < b.toInt) : p1_pr 126 236 [.int a, .int b] := p1_both (x_flag1 a b q w) (y_flag1 a b q w)
set_option maxRecDepth 20000 in
theorem x_paint0 (a b : Int32) (q : ¬ ((0 : Int32) ≤ a ∧ a ≤ 4 * 4 - 1)) : mm_K 9 130 [.ref 0, .int a, .int b] hM (fun h2 v => h2 = hM ∧ v = some (.int (0))) := by
  refine mm_K.of rfl ?_
  show mm_W 8 mc_130 0 [some (.ref 0), some (.int a), some (.int b)] [] hM _
  refine w_st (fun _ => rfl) ?_
  refine w_st (fun _ => rfl) ?_
  refine w_ivV (as := [_]) rfl mg_130 rfl rfl rfl rfl ?_
  refine (c_flF q).mono (Nat.le_of_ble_eq_true rfl) ?_
  rintro _ _ ⟨rfl, rfl⟩
  refine w_st (fun _ => rfl) ?_
  refine w_st (fun _ => rfl) ?_
  exact w_rt (fun _ => rfl) ⟨⟨Nat.le_refl _, Nat.le_refl _⟩, rfl, rfl⟩
set_option maxRecDepth 20000 in
theorem y_paint0 (a b : Int32) (q : ¬ ((0 : Int32) ≤ a ∧ a ≤ 4 * 4 - 1)) : mm_K 9 242 [.ref 284, .int a, .int b] hM (fun h2 v => h2 = hM ∧ v = some (.int (0))) := by
  refine mm_K.of rfl ?_
  show mm_W 8 mc_242 0 [some (.ref 284), some (.int a), some (.int b)] [] hM _
  refine w_st (fun _ => rfl) ?_
  refine w_ivV (as := []) rfl mg_242 rfl rfl rfl rfl ?_
  refine (m_co).mono (Nat.le_of_ble_eq_true rfl) ?_
  rintro _ _ ⟨rfl, rfl⟩
  refine w_st (fun _ => rfl) ?_
  refine w_st (fun _ => rfl) ?_
  refine w_ivV (as := [_]) rfl mg_242 rfl rfl rfl rfl ?_
  refine (m_flF q).mono (Nat.le_of_ble_eq_true rfl) ?_
  rintro _ _ ⟨rfl, rfl⟩
  refine w_st (fun _ => rfl) ?_
  refine w_st (fun _ => rfl) ?_
  exact w_rt (fun _ => rfl) ⟨⟨Nat.le_refl _, Nat.le_refl _⟩, rfl, rfl⟩
theorem pr_paint0 (a b : Int32) (q : ¬ ((0 : Int32) ≤ a ∧ a ≤ 4 * 4 - 1)) : p1_pr 130 242 [.int a, .int b] := p1_both (x_paint0 a b q) (y_paint0 a b q)
set_option maxRecDepth 20000 in
theorem x_paint1 (a b : Int32) (q : (0 : Int32) ≤ a ∧ a ≤ 4 * 4 - 1) (r : ¬ ((0 : Int32) ≤ b ∧ b ≤ 9)) : mm_K 9 130 [.ref 0, .int a, .int b] hM (fun h2 v => h2 = hM ∧ v = some (.int (0))) := by
  refine mm_K.of rfl ?_
  show mm_W 8 mc_130 0 [some (.ref 0), some (.int a), some (.int b)] [] hM _
  refine w_st (fun _ => rfl) ?_
  refine w_st (fun _ => rfl) ?_
  refine w_ivV (as := [_]) rfl mg_130 rfl rfl rfl rfl ?_
  refine (c_flT q).mono (Nat.le_of_ble_eq_true rfl) ?_
  rintro _ _ ⟨rfl, rfl⟩
  refine w_st (fun _ => rfl) ?_
  refine w_st (fun _ => rfl) ?_
  refine w_ivS (as := [_]) rfl mg_130 rfl rfl rfl ?_
  refine (c_mkF hM r).mono (Nat.le_of_ble_eq_true rfl) ?_
  rintro _ _ ⟨rfl, rfl⟩
  refine w_st (fun _ => rfl) ?_
  refine w_st (fun _ => rfl) ?_
  exact w_rt (fun _ => rfl) ⟨⟨Nat.le_refl _, Nat.le_refl _⟩, rfl, rfl⟩
set_option maxRecDepth 20000 in
theorem y_paint1 (a b : Int32) (q : (0 : Int32) ≤ a ∧ a ≤ 4 * 4 - 1) (r : ¬ ((0 : Int32) ≤ b ∧ b ≤ 9)) : mm_K 9 242 [.ref 284, .int a, .int b] hM (fun h2 v => h2 = hM ∧ v = some (.int (0))) := by
  refine mm_K.of rfl ?_
  show mm_W 8 mc_242 0 [some (.ref 284), some (.int a), some (.int b)] [] hM _
  refine w_st (fun _ => rfl) ?_
  refine w_ivV (as := []) rfl mg_242 rfl rfl rfl rfl ?_
  refine (m_co).mono (Nat.le_of_ble_eq_true rfl) ?_
  rintro _ _ ⟨rfl, rfl⟩
  refine w_st (fun _ => rfl) ?_
  refine w_st (fun _ => rfl) ?_
  refine w_ivV (as := [_]) rfl mg_242 rfl rfl rfl rfl ?_
  refine (m_flT q).mono (Nat.le_of_ble_eq_true rfl) ?_
  rintro _ _ ⟨rfl, rfl⟩
  refine w_st (fun _ => rfl) ?_
  refine w_st (fun _ => rfl) ?_
  refine w_ivS (as := [_]) rfl mg_242 rfl rfl rfl ?_
  refine (m_mkF hM r).mono (Nat.le_of_ble_eq_true rfl) ?_
  rintro _ _ ⟨rfl, rfl⟩
  refine w_st (fun _ => rfl) ?_
  refine w_st (fun _ => rfl) ?_
  exact w_rt (fun _ => rfl) ⟨⟨Nat.le_refl _, Nat.le_refl _⟩, rfl, rfl⟩
theorem pr_paint1 (a b : Int32) (q : (0 : Int32) ≤ a ∧ a ≤ 4 * 4 - 1) (r : ¬ ((0 : Int32) ≤ b ∧ b ≤ 9)) : p1_pr 130 242 [.int a, .int b] := p1_both (x_paint1 a b q r) (y_paint1 a b q r)
set_option maxRecDepth 20000 in
theorem x_minutes0 (a : Int32) (q : ¬ ((0 : Int32) ≤ a ∧ a ≤ 60)) : mm_K 9 131 [.ref 0, .int a] hM (fun h2 v => h2 = hM ∧ v = some (.int (-1))) := by
  refine mm_K.of rfl ?_
  show mm_W 8 mc_131 0 [some (.ref 0), some (.int a)] [] hM _
  refine w_st (fun _ => rfl) ?_
  refine w_st (fun _ => rfl) ?_
  refine w_st (fun _ => rfl) ?_
  refine w_ivS (as := [_, _, _]) rfl mg_131 rfl rfl rfl ?_
  refine (c_wiF (lo := 0) (hi := 60) hM q).mono (Nat.le_of_ble_eq_true rfl) ?_
  rintro _ _ ⟨rfl, rfl⟩
  refine w_st (fun _ => rfl) ?_
  refine w_st (fun _ => rfl) ?_
  exact w_rt (fun _ => rfl) ⟨⟨Nat.le_refl _, Nat.le_refl _⟩, rfl, rfl⟩
set_option maxRecDepth 20000 in
theorem y_minutes0 (a : Int32) (q : ¬ ((0 : Int32) ≤ a ∧ a ≤ 60)) : mm_K 9 244 [.ref 284, .int a] hM (fun h2 v => h2 = hM ∧ v = some (.int (-1))) := by
  refine mm_K.of rfl ?_
  show mm_W 8 mc_244 0 [some (.ref 284), some (.int a)] [] hM _
  refine w_st (fun _ => rfl) ?_
  refine w_ivS (as := [_]) rfl mg_244 rfl rfl rfl ?_
  refine (m_loF hM q).mono (Nat.le_of_ble_eq_true rfl) ?_
  rintro _ _ ⟨rfl, rfl⟩
  refine w_st (fun _ => rfl) ?_
  refine w_st (fun _ => rfl) ?_
  exact w_rt (fun _ => rfl) ⟨⟨Nat.le_refl _, Nat.le_refl _⟩, rfl, rfl⟩
theorem pr_minutes0 (a : Int32) (q : ¬ ((0 : Int32) ≤ a ∧ a ≤ 60)) : p1_pr 131 244 [.int a] := p1_both (x_minutes0 a q) (y_minutes0 a q)
set_option maxRecDepth 20000 in
theorem x_paidIn0 (a : Int32) (q : ¬ ((0 : Int32) ≤ a ∧ a ≤ 60)) : mm_K 9 149 [.ref 0, .int a] hM (fun h2 v => h2 = hM ∧ v = some (.int (-1))) := by
  refine mm_K.of rfl ?_
  show mm_W 8 mc_149 0 [some (.ref 0), some (.int a)] [] hM _
  refine w_st (fun _ => rfl) ?_
  refine w_st (fun _ => rfl) ?_
  refine w_st (fun _ => rfl) ?_
  refine w_ivS (as := [_, _, _]) rfl mg_149 rfl rfl rfl ?_
  refine (c_wiF (lo := 0) (hi := 60) hM q).mono (Nat.le_of_ble_eq_true rfl) ?_
  rintro _ _ ⟨rfl, rfl⟩
  refine w_st (fun _ => rfl) ?_
  refine w_st (fun _ => rfl) ?_
  exact w_rt (fun _ => rfl) ⟨⟨Nat.le_refl _, Nat.le_refl _⟩, rfl, rfl⟩
set_option maxRecDepth 20000 in
theorem y_paidIn0 (a : Int32) (q : ¬ ((0 : Int32) ≤ a ∧ a ≤ 60)) : mm_K 9 275 [.ref 284, .int a] hM (fun h2 v => h2 = hM ∧ v = some (.int (-1))) := by
  refine mm_K.of rfl ?_
  show mm_W 8 mc_275 0 [some (.ref 284), some (.int a)] [] hM _
  refine w_st (fun _ => rfl) ?_
  refine w_ivS (as := [_]) rfl mg_275 rfl rfl rfl ?_
  refine (m_loF hM q).mono (Nat.le_of_ble_eq_true rfl) ?_
  rintro _ _ ⟨rfl, rfl⟩
  refine w_st (fun _ => rfl) ?_
  refine w_st (fun _ => rfl) ?_
  exact w_rt (fun _ => rfl) ⟨⟨Nat.le_refl _, Nat.le_refl _⟩, rfl, rfl⟩
theorem pr_paidIn0 (a : Int32) (q : ¬ ((0 : Int32) ≤ a ∧ a ≤ 60)) : p1_pr 149 275 [.int a] := p1_both (x_paidIn0 a q) (y_paidIn0 a q)
set_option maxRecDepth 20000 in
theorem x_flagIn0 (a b : Int32) (q : ¬ ((0 : Int32) ≤ a ∧ a ≤ 4 * 4 - 1)) : mm_K 9 148 [.ref 0, .int a, .int b] hM (fun h2 v => h2 = hM ∧ v = some (.int (-1))) := by
  refine mm_K.of rfl ?_
  show mm_W 8 mc_148 0 [some (.ref 0), some (.int a), some (.int b)] [] hM _
  refine w_st (fun _ => rfl) ?_
  refine w_st (fun _ => rfl) ?_
  refine w_ivV (as := [_]) rfl mg_148 rfl rfl rfl rfl ?_
  refine (c_flF q).mono (Nat.le_of_ble_eq_true rfl) ?_
  rintro _ _ ⟨rfl, rfl⟩
  refine w_st (fun _ => rfl) ?_
  refine w_st (fun _ => rfl) ?_
  exact w_rt (fun _ => rfl) ⟨⟨Nat.le_refl _, Nat.le_refl _⟩, rfl, rfl⟩
set_option maxRecDepth 20000 in
theorem y_flagIn0 (a b : Int32) (q : ¬ ((0 : Int32) ≤ a ∧ a ≤ 4 * 4 - 1)) : mm_K 9 274 [.ref 284, .int a, .int b] hM (fun h2 v => h2 = hM ∧ v = some (.int (-1))) := by
  refine mm_K.of rfl ?_
  show mm_W 8 mc_274 0 [some (.ref 284), some (.int a), some (.int b)] [] hM _
  refine w_st (fun _ => rfl) ?_
  refine w_st (fun _ => rfl) ?_
  refine w_ivV (as := [_]) rfl mg_274 rfl rfl rfl rfl ?_
  refine (m_flF q).mono (Nat.le_of_ble_eq_true rfl) ?_
  rintro _ _ ⟨rfl, rfl⟩
  refine w_st (fun _ => rfl) ?_
  refine w_st (fun _ => rfl) ?_
  exact w_rt (fun _ => rfl) ⟨⟨Nat.le_refl _, Nat.le_refl _⟩, rfl, rfl⟩
theorem pr_flagIn0 (a b : Int32) (q : ¬ ((0 : Int32) ≤ a ∧ a ≤ 4 * 4 - 1)) : p1_pr 148 274 [.int a, .int b] := p1_both (x_flagIn0 a b q) (y_flagIn0 a b q)
set_option maxRecDepth 20000 in
theorem x_flagIn1 (a b : Int32) (q : (0 : Int32) ≤ a ∧ a ≤ 4 * 4 - 1) (r : ¬ ((0 : Int32) ≤ b ∧ b ≤ 60)) : mm_K 9 148 [.ref 0, .int a, .int b] hM (fun h2 v => h2 = hM ∧ v = some (.int (-1))) := by
  refine mm_K.of rfl ?_
  show mm_W 8 mc_148 0 [some (.ref 0), some (.int a), some (.int b)] [] hM _
  refine w_st (fun _ => rfl) ?_
  refine w_st (fun _ => rfl) ?_
  refine w_ivV (as := [_]) rfl mg_148 rfl rfl rfl rfl ?_
  refine (c_flT q).mono (Nat.le_of_ble_eq_true rfl) ?_
  rintro _ _ ⟨rfl, rfl⟩
  refine w_st (fun _ => rfl) ?_
  refine w_st (fun _ => rfl) ?_
  refine w_st (fun _ => rfl) ?_
  refine w_st (fun _ => rfl) ?_
  refine w_ivS (as := [_, _, _]) rfl mg_148 rfl rfl rfl ?_
  refine (c_wiF (lo := 0) (hi := 60) hM r).mono (Nat.le_of_ble_eq_true rfl) ?_
  rintro _ _ ⟨rfl, rfl⟩
  refine w_st (fun _ => rfl) ?_
  refine w_st (fun _ => rfl) ?_
  exact w_rt (fun _ => rfl) ⟨⟨Nat.le_refl _, Nat.le_refl _⟩, rfl, rfl⟩
set_option maxRecDepth 20000 in
theorem y_flagIn1 (a b : Int32) (q : (0 : Int32) ≤ a ∧ a ≤ 4 * 4 - 1) (r : ¬ ((0 : Int32) ≤ b ∧ b ≤ 60)) : mm_K 9 274 [.ref 284, .int a, .int b] hM (fun h2 v => h2 = hM ∧ v = some (.int (-1))) := by
  refine mm_K.of rfl ?_
  show mm_W 8 mc_274 0 [some (.ref 284), some (.int a), some (.int b)] [] hM _
  refine w_st (fun _ => rfl) ?_
  refine w_st (fun _ => rfl) ?_
  refine w_ivV (as := [_]) rfl mg_274 rfl rfl rfl rfl ?_
  refine (m_flT q).mono (Nat.le_of_ble_eq_true rfl) ?_
  rintro _ _ ⟨rfl, rfl⟩
  refine w_st (fun _ => rfl) ?_
  refine w_st (fun _ => rfl) ?_
  refine w_ivS (as := [_]) rfl mg_274 rfl rfl rfl ?_
  refine (m_loF hM r).mono (Nat.le_of_ble_eq_true rfl) ?_
  rintro _ _ ⟨rfl, rfl⟩
  refine w_st (fun _ => rfl) ?_
  refine w_st (fun _ => rfl) ?_
  exact w_rt (fun _ => rfl) ⟨⟨Nat.le_refl _, Nat.le_refl _⟩, rfl, rfl⟩
theorem pr_flagIn1 (a b : Int32) (q : (0 : Int32) ≤ a ∧ a ≤ 4 * 4 - 1) (r : ¬ ((0 : Int32) ≤ b ∧ b ≤ 60)) : p1_pr 148 274 [.int a, .int b] := p1_both (x_flagIn1 a b q r) (y_flagIn1 a b q r)
set_option maxRecDepth 20000 in
theorem x_tell0 (a b c : Int32) (q : ¬ ((1 : Int32) ≤ a ∧ a ≤ 5)) : mm_K 9 151 [.ref 0, .int a, .int b, .int c] hM (fun h2 v => h2 = hM ∧ v = some (.int (-1))) := by
  refine mm_K.of rfl ?_
  show mm_W 8 mc_151 0 [some (.ref 0), some (.int a), some (.int b), some (.int c)] [] hM _
  refine w_st (fun _ => rfl) ?_
  refine w_st (fun _ => rfl) ?_
  refine w_st (fun _ => rfl) ?_
  refine w_ivS (as := [_, _, _]) rfl mg_151 rfl rfl rfl ?_
  refine (c_wiF (lo := 1) (hi := 5) hM q).mono (Nat.le_of_ble_eq_true rfl) ?_
  rintro _ _ ⟨rfl, rfl⟩
  refine w_st (fun _ => rfl) ?_
  refine w_st (fun _ => rfl) ?_
  exact w_rt (fun _ => rfl) ⟨⟨Nat.le_refl _, Nat.le_refl _⟩, rfl, rfl⟩
set_option maxRecDepth 20000 in
theorem y_tell0 (a b c : Int32) (q : ¬ ((1 : Int32) ≤ a ∧ a ≤ 5)) : mm_K 9 277 [.ref 284, .int a, .int b, .int c] hM (fun h2 v => h2 = hM ∧ v = some (.int (-1))) := by
  refine mm_K.of rfl ?_
  show mm_W 8 mc_277 0 [some (.ref 284), some (.int a), some (.int b), some (.int c)] [] hM _
  refine w_st (fun _ => rfl) ?_
  refine w_st (fun _ => rfl) ?_
  refine w_st (fun _ => rfl) ?_
  refine w_st (fun _ => rfl) ?_
  refine w_st (fun _ => rfl) ?_
  refine w_st (fun _ => rfl) ?_
  refine w_st (fun _ => rfl) ?_
  refine w_ivS (as := [_, _, _]) rfl mg_277 rfl rfl rfl ?_
  refine (c_inF (lo := 1) (hi := 5) hM q).mono (Nat.le_of_ble_eq_true rfl) ?_
  rintro _ _ ⟨rfl, rfl⟩
  refine w_st (fun _ => rfl) ?_
  refine w_st (fun _ => rfl) ?_
  exact w_rt (fun _ => rfl) ⟨⟨Nat.le_refl _, Nat.le_refl _⟩, rfl, rfl⟩
theorem pr_tell0 (a b c : Int32) (q : ¬ ((1 : Int32) ≤ a ∧ a ≤ 5)) : p1_pr 151 277 [.int a, .int b, .int c] := p1_both (x_tell0 a b c q) (y_tell0 a b c q)
set_option maxRecDepth 20000 in
theorem x_tell1 (a b c : Int32) (q : (1 : Int32) ≤ a ∧ a ≤ 5) (r : ¬ ((0 : Int32) ≤ b ∧ b ≤ 9)) : mm_K 9 151 [.ref 0, .int a, .int b, .int c] hM (fun h2 v => h2 = hM ∧ v = some (.int (-1))) := by
  refine mm_K.of rfl ?_
  show mm_W 8 mc_151 0 [some (.ref 0), some (.int a), some (.int b), some (.int c)] [] hM _
  refine w_st (fun _ => rfl) ?_
  refine w_st (fun _ => rfl) ?_
  refine w_st (fun _ => rfl) ?_
  refine w_ivS (as := [_, _, _]) rfl mg_151 rfl rfl rfl ?_
  refine (c_wiT (lo := 1) (hi := 5) hM q).mono (Nat.le_of_ble_eq_true rfl) ?_
  rintro _ _ ⟨rfl, rfl⟩
  refine w_st (fun _ => rfl) ?_
  refine w_st (fun _ => rfl) ?_
  refine w_ivS (as := [_]) rfl mg_151 rfl rfl rfl ?_
  refine (c_mkF hM r).mono (Nat.le_of_ble_eq_true rfl) ?_
  rintro _ _ ⟨rfl, rfl⟩
  refine w_st (fun _ => rfl) ?_
  refine w_st (fun _ => rfl) ?_
  exact w_rt (fun _ => rfl) ⟨⟨Nat.le_refl _, Nat.le_refl _⟩, rfl, rfl⟩
set_option maxRecDepth 20000 in
theorem y_tell1 (a b c : Int32) (q : (1 : Int32) ≤ a ∧ a ≤ 5) (r : ¬ ((0 : Int32) ≤ b ∧ b ≤ 9)) : mm_K 9 277 [.ref 284, .int a, .int b, .int c] hM (fun h2 v => h2 = hM ∧ v = some (.int (-1))) := by
  refine mm_K.of rfl ?_
  show mm_W 8 mc_277 0 [some (.ref 284), some (.int a), some (.int b), some (.int c)] [] hM _
  refine w_st (fun _ => rfl) ?_
  refine w_st (fun _ => rfl) ?_
  refine w_st (fun _ => rfl) ?_
  refine w_st (fun _ => rfl) ?_
  refine w_st (fun _ => rfl) ?_
  refine w_st (fun _ => rfl) ?_
  refine w_st (fun _ => rfl) ?_
  refine w_ivS (as := [_, _, _]) rfl mg_277 rfl rfl rfl ?_
  refine (c_inT (lo := 1) (hi := 5) hM q).mono (Nat.le_of_ble_eq_true rfl) ?_
  rintro _ _ ⟨rfl, rfl⟩
  refine w_st (fun _ => rfl) ?_
  refine w_st (fun _ => rfl) ?_
  refine w_ivS (as := [_]) rfl mg_277 rfl rfl rfl ?_
  refine (m_mkF hM r).mono (Nat.le_of_ble_eq_true rfl) ?_
  rintro _ _ ⟨rfl, rfl⟩
  refine w_st (fun _ => rfl) ?_
  refine w_st (fun _ => rfl) ?_
  exact w_rt (fun _ => rfl) ⟨⟨Nat.le_refl _, Nat.le_refl _⟩, rfl, rfl⟩
theorem pr_tell1 (a b c : Int32) (q : (1 : Int32) ≤ a ∧ a ≤ 5) (r : ¬ ((0 : Int32) ≤ b ∧ b ≤ 9)) : p1_pr 151 277 [.int a, .int b, .int c] := p1_both (x_tell1 a b c q r) (y_tell1 a b c q r)
set_option maxRecDepth 20000 in
theorem x_hold0 (a : Int32) (q : ¬ ((0 : Int32) ≤ a ∧ a ≤ 2)) : mm_K 9 155 [.ref 0, .int a] hM (fun h2 v => h2 = hM ∧ v = some (.int (0))) := by
  refine mm_K.of rfl ?_
  show mm_W 8 mc_155 0 [some (.ref 0), some (.int a)] [] hM _
  refine w_st (fun _ => rfl) ?_
  refine w_st (fun _ => rfl) ?_
  refine w_st (fun _ => rfl) ?_
  refine w_ivS (as := [_, _, _]) rfl mg_155 rfl rfl rfl ?_
  refine (c_wiF (lo := 0) (hi := 2) hM q).mono (Nat.le_of_ble_eq_true rfl) ?_
  rintro _ _ ⟨rfl, rfl⟩
  refine w_st (fun _ => rfl) ?_
  refine w_st (fun _ => rfl) ?_
  exact w_rt (fun _ => rfl) ⟨⟨Nat.le_refl _, Nat.le_refl _⟩, rfl, rfl⟩
set_option maxRecDepth 20000 in
theorem y_hold0 (a : Int32) (q : ¬ ((0 : Int32) ≤ a ∧ a ≤ 2)) : mm_K 9 284 [.ref 284, .int a] hM (fun h2 v => h2 = hM ∧ v = some (.int (0))) := by
  refine mm_K.of rfl ?_
  show mm_W 8 mc_284 0 [some (.ref 284), some (.int a), none] [] hM _
  refine w_st (fun _ => rfl) ?_
  refine w_st (fun _ => rfl) ?_
  refine w_st (fun _ => rfl) ?_
  refine w_ivS (as := [_, _, _]) rfl mg_284 rfl rfl rfl ?_
  refine (c_inF (lo := 0) (hi := 2) hM q).mono (Nat.le_of_ble_eq_true rfl) ?_
  rintro _ _ ⟨rfl, rfl⟩
  refine w_st (fun _ => rfl) ?_
  refine w_st (fun _ => rfl) ?_
  exact w_rt (fun _ => rfl) ⟨⟨Nat.le_refl _, Nat.le_refl _⟩, rfl, rfl⟩
theorem pr_hold0 (a : Int32) (q : ¬ ((0 : Int32) ≤ a ∧ a ≤ 2)) : p1_pr 155 284 [.int a] := p1_both (x_hold0 a q) (y_hold0 a q)
set_option maxRecDepth 20000 in
theorem x_restore0 (a : Int32) (q : ¬ ((0 : Int32) ≤ a ∧ a ≤ 2)) : mm_K 9 156 [.ref 0, .int a] hM (fun h2 v => h2 = hM ∧ v = some (.int (0))) := by
  refine mm_K.of rfl ?_
  show mm_W 8 mc_156 0 [some (.ref 0), some (.int a)] [] hM _
  refine w_st (fun _ => rfl) ?_
  refine w_st (fun _ => rfl) ?_
  refine w_st (fun _ => rfl) ?_
  refine w_ivS (as := [_, _, _]) rfl mg_156 rfl rfl rfl ?_
  refine (c_wiF (lo := 0) (hi := 2) hM q).mono (Nat.le_of_ble_eq_true rfl) ?_
  rintro _ _ ⟨rfl, rfl⟩
  refine w_st (fun _ => rfl) ?_
  refine w_st (fun _ => rfl) ?_
  exact w_rt (fun _ => rfl) ⟨⟨Nat.le_refl _, Nat.le_refl _⟩, rfl, rfl⟩
set_option maxRecDepth 20000 in
theorem y_restore0 (a : Int32) (q : ¬ ((0 : Int32) ≤ a ∧ a ≤ 2)) : mm_K 9 285 [.ref 284, .int a] hM (fun h2 v => h2 = hM ∧ v = some (.int (0))) := by
  refine mm_K.of rfl ?_
  show mm_W 8 mc_285 0 [some (.ref 284), some (.int a), none] [] hM _
  refine w_st (fun _ => rfl) ?_
  refine w_st (fun _ => rfl) ?_
  refine w_st (fun _ => rfl) ?_
  refine w_ivS (as := [_, _, _]) rfl mg_285 rfl rfl rfl ?_
  refine (c_inF (lo := 0) (hi := 2) hM q).mono (Nat.le_of_ble_eq_true rfl) ?_
  rintro _ _ ⟨rfl, rfl⟩
  refine w_st (fun _ => rfl) ?_
  refine w_st (fun _ => rfl) ?_
  exact w_rt (fun _ => rfl) ⟨⟨Nat.le_refl _, Nat.le_refl _⟩, rfl, rfl⟩
theorem pr_restore0 (a : Int32) (q : ¬ ((0 : Int32) ≤ a ∧ a ≤ 2)) : p1_pr 156 285 [.int a] := p1_both (x_restore0 a q) (y_restore0 a q)
set_option maxRecDepth 20000 in
theorem x_cou (a : Int32) (q : a.toInt < 0 ∨ 16 < a.toInt) : mm_K 2 158 [.ref 0, .int a] hM (fun h2 v => h2 = hM ∧ v = some (.int (-1))) := by
  refine mm_K.of rfl ?_
  show mm_W 1 mc_158 0 [some (.ref 0), some (.int a)] [] hM _
  refine w_st (fun _ => rfl) ?_
  refine w_tswO rfl (by omega) ?_
  refine w_st (fun _ => rfl) ?_
  exact w_rt (fun _ => rfl) ⟨⟨Nat.le_refl _, Nat.le_refl _⟩, rfl, rfl⟩
set_option maxRecDepth 20000 in
theorem x_count0 (a : Int32) (q : a.toInt < 0 ∨ 16 < a.toInt) : mm_K 9 157 [.ref 0, .int a] hM (fun h2 v => h2 = hM ∧ v = some (.int (-1))) := by
  refine mm_K.of rfl ?_
  show mm_W 8 mc_157 0 [some (.ref 0), some (.int a)] [] hM _
  refine w_st (fun _ => rfl) ?_
  refine w_tswO rfl (by omega) ?_
  refine w_st (fun _ => rfl) ?_
  refine w_st (fun _ => rfl) ?_
  refine w_ivV (as := [_]) rfl mg_157 rfl rfl rfl rfl ?_
  refine (x_cou a q).mono (Nat.le_of_ble_eq_true rfl) ?_
  rintro _ _ ⟨rfl, rfl⟩
  exact w_rt (fun _ => rfl) ⟨⟨Nat.le_refl _, Nat.le_refl _⟩, rfl, rfl⟩
set_option maxRecDepth 20000 in
theorem y_count0 (a : Int32) (q : a.toInt < 0 ∨ 16 < a.toInt) : mm_K 9 287 [.ref 284, .int a] hM (fun h2 v => h2 = hM ∧ v = some (.int (-1))) := by
  refine mm_K.of rfl ?_
  show mm_W 8 mc_287 0 [some (.ref 284), some (.int a), none, none] [] hM _
  refine w_st (fun _ => rfl) ?_
  refine w_ivV (as := []) rfl mg_287 rfl rfl rfl rfl ?_
  refine (m_co).mono (Nat.le_of_ble_eq_true rfl) ?_
  rintro _ _ ⟨rfl, rfl⟩
  refine w_st (fun _ => rfl) ?_
  refine w_st (fun _ => rfl) ?_
  refine w_st (fun _ => rfl) ?_
  refine w_tswO rfl (by omega) ?_
  refine w_st (fun _ => rfl) ?_
  exact w_rt (fun _ => rfl) ⟨⟨Nat.le_refl _, Nat.le_refl _⟩, rfl, rfl⟩
theorem pr_count0 (a : Int32) (q : a.toInt < 0 ∨ 16 < a.toInt) : p1_pr 157 287 [.int a] := p1_both (x_count0 a q) (y_count0 a q)
set_option maxRecDepth 20000 in
theorem x_back0 (a : Int32) (q : a < 0) : mm_K 9 123 [.ref 0, .int a] hM (fun h2 v => h2 = hM ∧ v = some (.int (-1))) := by
  refine mm_K.of rfl ?_
  show mm_W 8 mc_123 0 [some (.ref 0), some (.int a)] [] hM _
  refine w_st (fun _ => rfl) ?_
  refine w_ifT rfl (decide_eq_true q) ?_
  refine w_st (fun _ => rfl) ?_
  exact w_rt (fun _ => rfl) ⟨⟨Nat.le_refl _, Nat.le_refl _⟩, rfl, rfl⟩
set_option maxRecDepth 20000 in
theorem y_back0 (a : Int32) (q : a < 0) : mm_K 9 171 [.ref 284, .int a] hM (fun h2 v => h2 = hM ∧ v = some (.int (-1))) := by
  refine mm_K.of rfl ?_
  show mm_W 8 mc_171 0 [some (.ref 284), some (.int a)] [] hM _
  refine w_st (fun _ => rfl) ?_
  refine w_ifT rfl (decide_eq_true q) ?_
  refine w_st (fun _ => rfl) ?_
  exact w_rt (fun _ => rfl) ⟨⟨Nat.le_refl _, Nat.le_refl _⟩, rfl, rfl⟩
theorem pr_back0 (a : Int32) (q : a < 0) : p1_pr 123 171 [.int a] := p1_both (x_back0 a q) (y_back0 a q)
set_option maxRecDepth 20000 in
theorem x_back1 (a : Int32) (q : ¬ a < 0) (r : ¬ a ≤ 0) : mm_K 9 123 [.ref 0, .int a] hM (fun h2 v => h2 = hM ∧ v = some (.int (-1))) := by
  refine mm_K.of rfl ?_
  show mm_W 8 mc_123 0 [some (.ref 0), some (.int a)] [] hM _
  refine w_st (fun _ => rfl) ?_
  refine w_ifF rfl (decide_eq_false q) ?_
  refine w_st (fun _ => rfl) ?_
  refine w_st (fun _ => rfl) ?_
  refine w_st (fun _ => rfl) ?_
  refine w_st (fun _ => rfl) ?_
  refine w_icF rfl (decide_eq_false r) ?_
  refine w_st (fun _ => rfl) ?_
  exact w_rt (fun _ => rfl) ⟨⟨Nat.le_refl _, Nat.le_refl _⟩, rfl, rfl⟩
set_option maxRecDepth 20000 in
theorem y_back1 (a : Int32) (q : ¬ a < 0) (r : ¬ a ≤ 0) : mm_K 9 171 [.ref 284, .int a] hM (fun h2 v => h2 = hM ∧ v = some (.int (-1))) := by
  refine mm_K.of rfl ?_
  show mm_W 8 mc_171 0 [some (.ref 284), some (.int a)] [] hM _
  refine w_st (fun _ => rfl) ?_
  refine w_ifF rfl (decide_eq_false q) ?_
  refine w_st (fun _ => rfl) ?_
  refine w_st (fun _ => rfl) ?_
  refine w_st (fun _ => rfl) ?_
  refine w_icF rfl (decide_eq_false r) ?_
  refine w_st (fun _ => rfl) ?_
  exact w_rt (fun _ => rfl) ⟨⟨Nat.le_refl _, Nat.le_refl _⟩, rfl, rfl⟩
theorem pr_back1 (a : Int32) (q : ¬ a < 0) (r : ¬ a ≤ 0) : p1_pr 123 171 [.int a] := p1_both (x_back1 a q r) (y_back1 a q r)
