abbrev w_se (x : TMa) (f : Nat → Int32) : TMa := (f, x.2.1, x.2.2.1, x.2.2.2.1, x.2.2.2.2.1, x.2.2.2.2.2.1, x.2.2.2.2.2.2.1, x.2.2.2.2.2.2.2.1, x.2.2.2.2.2.2.2.2.1, x.2.2.2.2.2.2.2.2.2.1, x.2.2.2.2.2.2.2.2.2.2.1, x.2.2.2.2.2.2.2.2.2.2.2.1, x.2.2.2.2.2.2.2.2.2.2.2.2.1, x.2.2.2.2.2.2.2.2.2.2.2.2.2)
theorem mr_se {x : TMa} {sv : Nat → Int32} {c : Nat} {v : Int32} (h : mrel x sv) (hc : c < 4) : mrel (w_se x (upd x.1 c (v))) (upd sv (31 + c) v) := by
  obtain ⟨h0, h1, h2, h3, h4, h5, h6, h7, h8, h9, h10, h11, h12, h13⟩ := h
  refine ⟨fun k hk => ?_, fun k hk => ?_, fun k hk => ?_, fun k hk => ?_, fun k hk => ?_, fun k hk => ?_, fun k hk => ?_, fun k hk => ?_, fun k hk => ?_, fun k hk => ?_, fun k hk => ?_, ?_, ?_, ?_⟩
  · by_cases e : k = c
    · subst e; rw [pk_us]; exact pk_us
    · rw [pk_un (by omega)]; exact (pk_un e).trans (h0 k hk)
  · rw [pk_un (by omega)]; exact h1 k hk
  · rw [pk_un (by omega)]; exact h2 k hk
  · rw [pk_un (by omega)]; exact h3 k hk
  · rw [pk_un (by omega)]; exact h4 k hk
  · rw [pk_un (by omega)]; exact h5 k hk
  · rw [pk_un (by omega)]; exact h6 k hk
  · rw [pk_un (by omega)]; exact h7 k hk
  · rw [pk_un (by omega)]; exact h8 k hk
  · rw [pk_un (by omega)]; exact h9 k hk
  · rw [pk_un (by omega)]; exact h10 k hk
  · rw [pk_un (by omega)]; exact h11
  · rw [pk_un (by omega)]; exact h12
  · rw [pk_un (by omega)]; exact h13
abbrev w_ki (x : TMa) (f : Nat → Int32) : TMa := (x.1, f, x.2.2.1, x.2.2.2.1, x.2.2.2.2.1, x.2.2.2.2.2.1, x.2.2.2.2.2.2.1, x.2.2.2.2.2.2.2.1, x.2.2.2.2.2.2.2.2.1, x.2.2.2.2.2.2.2.2.2.1, x.2.2.2.2.2.2.2.2.2.2.1, x.2.2.2.2.2.2.2.2.2.2.2.1, x.2.2.2.2.2.2.2.2.2.2.2.2.1, x.2.2.2.2.2.2.2.2.2.2.2.2.2)
theorem mr_ki {x : TMa} {sv : Nat → Int32} {c : Nat} {v : Int32} (h : mrel x sv) (hc : c < 4) : mrel (w_ki x (upd x.2.1 c (v))) (upd sv (c) v) := by
  obtain ⟨h0, h1, h2, h3, h4, h5, h6, h7, h8, h9, h10, h11, h12, h13⟩ := h
  refine ⟨fun k hk => ?_, fun k hk => ?_, fun k hk => ?_, fun k hk => ?_, fun k hk => ?_, fun k hk => ?_, fun k hk => ?_, fun k hk => ?_, fun k hk => ?_, fun k hk => ?_, fun k hk => ?_, ?_, ?_, ?_⟩
  · rw [pk_un (by omega)]; exact h0 k hk
  · by_cases e : k = c
    · subst e; rw [pk_us]; exact pk_us
    · rw [pk_un (by omega)]; exact (pk_un e).trans (h1 k hk)
  · rw [pk_un (by omega)]; exact h2 k hk
  · rw [pk_un (by omega)]; exact h3 k hk
  · rw [pk_un (by omega)]; exact h4 k hk
  · rw [pk_un (by omega)]; exact h5 k hk
  · rw [pk_un (by omega)]; exact h6 k hk
  · rw [pk_un (by omega)]; exact h7 k hk
  · rw [pk_un (by omega)]; exact h8 k hk
  · rw [pk_un (by omega)]; exact h9 k hk
  · rw [pk_un (by omega)]; exact h10 k hk
  · rw [pk_un (by omega)]; exact h11
  · rw [pk_un (by omega)]; exact h12
  · rw [pk_un (by omega)]; exact h13
abbrev w_ha (x : TMa) (f : Nat → Int32) : TMa := (x.1, x.2.1, f, x.2.2.2.1, x.2.2.2.2.1, x.2.2.2.2.2.1, x.2.2.2.2.2.2.1, x.2.2.2.2.2.2.2.1, x.2.2.2.2.2.2.2.2.1, x.2.2.2.2.2.2.2.2.2.1, x.2.2.2.2.2.2.2.2.2.2.1, x.2.2.2.2.2.2.2.2.2.2.2.1, x.2.2.2.2.2.2.2.2.2.2.2.2.1, x.2.2.2.2.2.2.2.2.2.2.2.2.2)
theorem mr_ha {x : TMa} {sv : Nat → Int32} {c : Nat} {v : Int32} (h : mrel x sv) (hc : c < 4) : mrel (w_ha x (upd x.2.2.1 c (v))) (upd sv (4 + c) v) := by
  obtain ⟨h0, h1, h2, h3, h4, h5, h6, h7, h8, h9, h10, h11, h12, h13⟩ := h
  refine ⟨fun k hk => ?_, fun k hk => ?_, fun k hk => ?_, fun k hk => ?_, fun k hk => ?_, fun k hk => ?_, fun k hk => ?_, fun k hk => ?_, fun k hk => ?_, fun k hk => ?_, fun k hk => ?_, ?_, ?_, ?_⟩
  · rw [pk_un (by omega)]; exact h0 k hk
  · rw [pk_un (by omega)]; exact h1 k hk
  · by_cases e : k = c
    · subst e; rw [pk_us]; exact pk_us
    · rw [pk_un (by omega)]; exact (pk_un e).trans (h2 k hk)
  · rw [pk_un (by omega)]; exact h3 k hk
  · rw [pk_un (by omega)]; exact h4 k hk
  · rw [pk_un (by omega)]; exact h5 k hk
  · rw [pk_un (by omega)]; exact h6 k hk
  · rw [pk_un (by omega)]; exact h7 k hk
  · rw [pk_un (by omega)]; exact h8 k hk
  · rw [pk_un (by omega)]; exact h9 k hk
  · rw [pk_un (by omega)]; exact h10 k hk
  · rw [pk_un (by omega)]; exact h11
  · rw [pk_un (by omega)]; exact h12
  · rw [pk_un (by omega)]; exact h13
abbrev w_sl (x : TMa) (f : Nat → Int32) : TMa := (x.1, x.2.1, x.2.2.1, f, x.2.2.2.2.1, x.2.2.2.2.2.1, x.2.2.2.2.2.2.1, x.2.2.2.2.2.2.2.1, x.2.2.2.2.2.2.2.2.1, x.2.2.2.2.2.2.2.2.2.1, x.2.2.2.2.2.2.2.2.2.2.1, x.2.2.2.2.2.2.2.2.2.2.2.1, x.2.2.2.2.2.2.2.2.2.2.2.2.1, x.2.2.2.2.2.2.2.2.2.2.2.2.2)
theorem mr_sl {x : TMa} {sv : Nat → Int32} {c : Nat} {v : Int32} (h : mrel x sv) (hc : c < 4) : mrel (w_sl x (upd x.2.2.2.1 c (v))) (upd sv (8 + c) v) := by
  obtain ⟨h0, h1, h2, h3, h4, h5, h6, h7, h8, h9, h10, h11, h12, h13⟩ := h
  refine ⟨fun k hk => ?_, fun k hk => ?_, fun k hk => ?_, fun k hk => ?_, fun k hk => ?_, fun k hk => ?_, fun k hk => ?_, fun k hk => ?_, fun k hk => ?_, fun k hk => ?_, fun k hk => ?_, ?_, ?_, ?_⟩
  · rw [pk_un (by omega)]; exact h0 k hk
  · rw [pk_un (by omega)]; exact h1 k hk
  · rw [pk_un (by omega)]; exact h2 k hk
  · by_cases e : k = c
    · subst e; rw [pk_us]; exact pk_us
    · rw [pk_un (by omega)]; exact (pk_un e).trans (h3 k hk)
  · rw [pk_un (by omega)]; exact h4 k hk
  · rw [pk_un (by omega)]; exact h5 k hk
  · rw [pk_un (by omega)]; exact h6 k hk
  · rw [pk_un (by omega)]; exact h7 k hk
  · rw [pk_un (by omega)]; exact h8 k hk
  · rw [pk_un (by omega)]; exact h9 k hk
  · rw [pk_un (by omega)]; exact h10 k hk
  · rw [pk_un (by omega)]; exact h11
  · rw [pk_un (by omega)]; exact h12
  · rw [pk_un (by omega)]; exact h13
abbrev w_ch (x : TMa) (f : Nat → Int32) : TMa := (x.1, x.2.1, x.2.2.1, x.2.2.2.1, f, x.2.2.2.2.2.1, x.2.2.2.2.2.2.1, x.2.2.2.2.2.2.2.1, x.2.2.2.2.2.2.2.2.1, x.2.2.2.2.2.2.2.2.2.1, x.2.2.2.2.2.2.2.2.2.2.1, x.2.2.2.2.2.2.2.2.2.2.2.1, x.2.2.2.2.2.2.2.2.2.2.2.2.1, x.2.2.2.2.2.2.2.2.2.2.2.2.2)
theorem mr_ch {x : TMa} {sv : Nat → Int32} {c : Nat} {v : Int32} (h : mrel x sv) (hc : c < 4) : mrel (w_ch x (upd x.2.2.2.2.1 c (v))) (upd sv (12 + c) v) := by
  obtain ⟨h0, h1, h2, h3, h4, h5, h6, h7, h8, h9, h10, h11, h12, h13⟩ := h
  refine ⟨fun k hk => ?_, fun k hk => ?_, fun k hk => ?_, fun k hk => ?_, fun k hk => ?_, fun k hk => ?_, fun k hk => ?_, fun k hk => ?_, fun k hk => ?_, fun k hk => ?_, fun k hk => ?_, ?_, ?_, ?_⟩
  · rw [pk_un (by omega)]; exact h0 k hk
  · rw [pk_un (by omega)]; exact h1 k hk
  · rw [pk_un (by omega)]; exact h2 k hk
  · rw [pk_un (by omega)]; exact h3 k hk
  · by_cases e : k = c
    · subst e; rw [pk_us]; exact pk_us
    · rw [pk_un (by omega)]; exact (pk_un e).trans (h4 k hk)
  · rw [pk_un (by omega)]; exact h5 k hk
  · rw [pk_un (by omega)]; exact h6 k hk
  · rw [pk_un (by omega)]; exact h7 k hk
  · rw [pk_un (by omega)]; exact h8 k hk
  · rw [pk_un (by omega)]; exact h9 k hk
  · rw [pk_un (by omega)]; exact h10 k hk
  · rw [pk_un (by omega)]; exact h11
  · rw [pk_un (by omega)]; exact h12
  · rw [pk_un (by omega)]; exact h13
abbrev w_ci (x : TMa) (f : Nat → Int32) : TMa := (x.1, x.2.1, x.2.2.1, x.2.2.2.1, x.2.2.2.2.1, f, x.2.2.2.2.2.2.1, x.2.2.2.2.2.2.2.1, x.2.2.2.2.2.2.2.2.1, x.2.2.2.2.2.2.2.2.2.1, x.2.2.2.2.2.2.2.2.2.2.1, x.2.2.2.2.2.2.2.2.2.2.2.1, x.2.2.2.2.2.2.2.2.2.2.2.2.1, x.2.2.2.2.2.2.2.2.2.2.2.2.2)
theorem mr_ci {x : TMa} {sv : Nat → Int32} {c : Nat} {v : Int32} (h : mrel x sv) (hc : c < 2) : mrel (w_ci x (upd x.2.2.2.2.2.1 c (dec4 v))) (upd sv (16 + c) v) := by
  obtain ⟨h0, h1, h2, h3, h4, h5, h6, h7, h8, h9, h10, h11, h12, h13⟩ := h
  refine ⟨fun k hk => ?_, fun k hk => ?_, fun k hk => ?_, fun k hk => ?_, fun k hk => ?_, fun k hk => ?_, fun k hk => ?_, fun k hk => ?_, fun k hk => ?_, fun k hk => ?_, fun k hk => ?_, ?_, ?_, ?_⟩
  · rw [pk_un (by omega)]; exact h0 k hk
  · rw [pk_un (by omega)]; exact h1 k hk
  · rw [pk_un (by omega)]; exact h2 k hk
  · rw [pk_un (by omega)]; exact h3 k hk
  · rw [pk_un (by omega)]; exact h4 k hk
  · by_cases e : k = c
    · subst e; rw [pk_us]; exact pk_us
    · rw [pk_un (by omega)]; exact (pk_un e).trans (h5 k hk)
  · rw [pk_un (by omega)]; exact h6 k hk
  · rw [pk_un (by omega)]; exact h7 k hk
  · rw [pk_un (by omega)]; exact h8 k hk
  · rw [pk_un (by omega)]; exact h9 k hk
  · rw [pk_un (by omega)]; exact h10 k hk
  · rw [pk_un (by omega)]; exact h11
  · rw [pk_un (by omega)]; exact h12
  · rw [pk_un (by omega)]; exact h13
abbrev w_dk (x : TMa) (f : Nat → Int32) : TMa := (x.1, x.2.1, x.2.2.1, x.2.2.2.1, x.2.2.2.2.1, x.2.2.2.2.2.1, f, x.2.2.2.2.2.2.2.1, x.2.2.2.2.2.2.2.2.1, x.2.2.2.2.2.2.2.2.2.1, x.2.2.2.2.2.2.2.2.2.2.1, x.2.2.2.2.2.2.2.2.2.2.2.1, x.2.2.2.2.2.2.2.2.2.2.2.2.1, x.2.2.2.2.2.2.2.2.2.2.2.2.2)
theorem mr_dk {x : TMa} {sv : Nat → Int32} {c : Nat} {v : Int32} (h : mrel x sv) (hc : c < 2) : mrel (w_dk x (upd x.2.2.2.2.2.2.1 c (v))) (upd sv (18 + c) v) := by
  obtain ⟨h0, h1, h2, h3, h4, h5, h6, h7, h8, h9, h10, h11, h12, h13⟩ := h
  refine ⟨fun k hk => ?_, fun k hk => ?_, fun k hk => ?_, fun k hk => ?_, fun k hk => ?_, fun k hk => ?_, fun k hk => ?_, fun k hk => ?_, fun k hk => ?_, fun k hk => ?_, fun k hk => ?_, ?_, ?_, ?_⟩
  · rw [pk_un (by omega)]; exact h0 k hk
  · rw [pk_un (by omega)]; exact h1 k hk
  · rw [pk_un (by omega)]; exact h2 k hk
  · rw [pk_un (by omega)]; exact h3 k hk
  · rw [pk_un (by omega)]; exact h4 k hk
  · rw [pk_un (by omega)]; exact h5 k hk
  · by_cases e : k = c
    · subst e; rw [pk_us]; exact pk_us
    · rw [pk_un (by omega)]; exact (pk_un e).trans (h6 k hk)
  · rw [pk_un (by omega)]; exact h7 k hk
  · rw [pk_un (by omega)]; exact h8 k hk
  · rw [pk_un (by omega)]; exact h9 k hk
  · rw [pk_un (by omega)]; exact h10 k hk
  · rw [pk_un (by omega)]; exact h11
  · rw [pk_un (by omega)]; exact h12
  · rw [pk_un (by omega)]; exact h13
abbrev w_li (x : TMa) (f : Nat → Int32) : TMa := (x.1, x.2.1, x.2.2.1, x.2.2.2.1, x.2.2.2.2.1, x.2.2.2.2.2.1, x.2.2.2.2.2.2.1, f, x.2.2.2.2.2.2.2.2.1, x.2.2.2.2.2.2.2.2.2.1, x.2.2.2.2.2.2.2.2.2.2.1, x.2.2.2.2.2.2.2.2.2.2.2.1, x.2.2.2.2.2.2.2.2.2.2.2.2.1, x.2.2.2.2.2.2.2.2.2.2.2.2.2)
theorem mr_li {x : TMa} {sv : Nat → Int32} {c : Nat} {v : Int32} (h : mrel x sv) (hc : c < 2) : mrel (w_li x (upd x.2.2.2.2.2.2.2.1 c (v))) (upd sv (20 + c) v) := by
  obtain ⟨h0, h1, h2, h3, h4, h5, h6, h7, h8, h9, h10, h11, h12, h13⟩ := h
  refine ⟨fun k hk => ?_, fun k hk => ?_, fun k hk => ?_, fun k hk => ?_, fun k hk => ?_, fun k hk => ?_, fun k hk => ?_, fun k hk => ?_, fun k hk => ?_, fun k hk => ?_, fun k hk => ?_, ?_, ?_, ?_⟩
  · rw [pk_un (by omega)]; exact h0 k hk
  · rw [pk_un (by omega)]; exact h1 k hk
  · rw [pk_un (by omega)]; exact h2 k hk
  · rw [pk_un (by omega)]; exact h3 k hk
  · rw [pk_un (by omega)]; exact h4 k hk
  · rw [pk_un (by omega)]; exact h5 k hk
  · rw [pk_un (by omega)]; exact h6 k hk
  · by_cases e : k = c
    · subst e; rw [pk_us]; exact pk_us
    · rw [pk_un (by omega)]; exact (pk_un e).trans (h7 k hk)
  · rw [pk_un (by omega)]; exact h8 k hk
  · rw [pk_un (by omega)]; exact h9 k hk
  · rw [pk_un (by omega)]; exact h10 k hk
  · rw [pk_un (by omega)]; exact h11
  · rw [pk_un (by omega)]; exact h12
  · rw [pk_un (by omega)]; exact h13
abbrev w_re (x : TMa) (f : Nat → Int32) : TMa := (x.1, x.2.1, x.2.2.1, x.2.2.2.1, x.2.2.2.2.1, x.2.2.2.2.2.1, x.2.2.2.2.2.2.1, x.2.2.2.2.2.2.2.1, f, x.2.2.2.2.2.2.2.2.2.1, x.2.2.2.2.2.2.2.2.2.2.1, x.2.2.2.2.2.2.2.2.2.2.2.1, x.2.2.2.2.2.2.2.2.2.2.2.2.1, x.2.2.2.2.2.2.2.2.2.2.2.2.2)
theorem mr_re {x : TMa} {sv : Nat → Int32} {c : Nat} {v : Int32} (h : mrel x sv) (hc : c < 2) : mrel (w_re x (upd x.2.2.2.2.2.2.2.2.1 c (v))) (upd sv (22 + c) v) := by
  obtain ⟨h0, h1, h2, h3, h4, h5, h6, h7, h8, h9, h10, h11, h12, h13⟩ := h
  refine ⟨fun k hk => ?_, fun k hk => ?_, fun k hk => ?_, fun k hk => ?_, fun k hk => ?_, fun k hk => ?_, fun k hk => ?_, fun k hk => ?_, fun k hk => ?_, fun k hk => ?_, fun k hk => ?_, ?_, ?_, ?_⟩
  · rw [pk_un (by omega)]; exact h0 k hk
  · rw [pk_un (by omega)]; exact h1 k hk
  · rw [pk_un (by omega)]; exact h2 k hk
  · rw [pk_un (by omega)]; exact h3 k hk
  · rw [pk_un (by omega)]; exact h4 k hk
  · rw [pk_un (by omega)]; exact h5 k hk
  · rw [pk_un (by omega)]; exact h6 k hk
  · rw [pk_un (by omega)]; exact h7 k hk
  · by_cases e : k = c
    · subst e; rw [pk_us]; exact pk_us
    · rw [pk_un (by omega)]; exact (pk_un e).trans (h8 k hk)
  · rw [pk_un (by omega)]; exact h9 k hk
  · rw [pk_un (by omega)]; exact h10 k hk
  · rw [pk_un (by omega)]; exact h11
  · rw [pk_un (by omega)]; exact h12
  · rw [pk_un (by omega)]; exact h13
abbrev w_dt (x : TMa) (f : Nat → Int32) : TMa := (x.1, x.2.1, x.2.2.1, x.2.2.2.1, x.2.2.2.2.1, x.2.2.2.2.2.1, x.2.2.2.2.2.2.1, x.2.2.2.2.2.2.2.1, x.2.2.2.2.2.2.2.2.1, f, x.2.2.2.2.2.2.2.2.2.2.1, x.2.2.2.2.2.2.2.2.2.2.2.1, x.2.2.2.2.2.2.2.2.2.2.2.2.1, x.2.2.2.2.2.2.2.2.2.2.2.2.2)
theorem mr_dt {x : TMa} {sv : Nat → Int32} {c : Nat} {v : Int32} (h : mrel x sv) (hc : c < 2) : mrel (w_dt x (upd x.2.2.2.2.2.2.2.2.2.1 c (v))) (upd sv (24 + c) v) := by
  obtain ⟨h0, h1, h2, h3, h4, h5, h6, h7, h8, h9, h10, h11, h12, h13⟩ := h
  refine ⟨fun k hk => ?_, fun k hk => ?_, fun k hk => ?_, fun k hk => ?_, fun k hk => ?_, fun k hk => ?_, fun k hk => ?_, fun k hk => ?_, fun k hk => ?_, fun k hk => ?_, fun k hk => ?_, ?_, ?_, ?_⟩
  · rw [pk_un (by omega)]; exact h0 k hk
  · rw [pk_un (by omega)]; exact h1 k hk
  · rw [pk_un (by omega)]; exact h2 k hk
  · rw [pk_un (by omega)]; exact h3 k hk
  · rw [pk_un (by omega)]; exact h4 k hk
  · rw [pk_un (by omega)]; exact h5 k hk
  · rw [pk_un (by omega)]; exact h6 k hk
  · rw [pk_un (by omega)]; exact h7 k hk
  · rw [pk_un (by omega)]; exact h8 k hk
  · by_cases e : k = c
    · subst e; rw [pk_us]; exact pk_us
    · rw [pk_un (by omega)]; exact (pk_un e).trans (h9 k hk)
  · rw [pk_un (by omega)]; exact h10 k hk
  · rw [pk_un (by omega)]; exact h11
  · rw [pk_un (by omega)]; exact h12
  · rw [pk_un (by omega)]; exact h13
abbrev w_la (x : TMa) (f : Nat → Int32) : TMa := (x.1, x.2.1, x.2.2.1, x.2.2.2.1, x.2.2.2.2.1, x.2.2.2.2.2.1, x.2.2.2.2.2.2.1, x.2.2.2.2.2.2.2.1, x.2.2.2.2.2.2.2.2.1, x.2.2.2.2.2.2.2.2.2.1, f, x.2.2.2.2.2.2.2.2.2.2.2.1, x.2.2.2.2.2.2.2.2.2.2.2.2.1, x.2.2.2.2.2.2.2.2.2.2.2.2.2)
theorem mr_la {x : TMa} {sv : Nat → Int32} {c : Nat} {v : Int32} (h : mrel x sv) (hc : c < 2) : mrel (w_la x (upd x.2.2.2.2.2.2.2.2.2.2.1 c (dec4 v))) (upd sv (26 + c) v) := by
  obtain ⟨h0, h1, h2, h3, h4, h5, h6, h7, h8, h9, h10, h11, h12, h13⟩ := h
  refine ⟨fun k hk => ?_, fun k hk => ?_, fun k hk => ?_, fun k hk => ?_, fun k hk => ?_, fun k hk => ?_, fun k hk => ?_, fun k hk => ?_, fun k hk => ?_, fun k hk => ?_, fun k hk => ?_, ?_, ?_, ?_⟩
  · rw [pk_un (by omega)]; exact h0 k hk
  · rw [pk_un (by omega)]; exact h1 k hk
  · rw [pk_un (by omega)]; exact h2 k hk
  · rw [pk_un (by omega)]; exact h3 k hk
  · rw [pk_un (by omega)]; exact h4 k hk
  · rw [pk_un (by omega)]; exact h5 k hk
  · rw [pk_un (by omega)]; exact h6 k hk
  · rw [pk_un (by omega)]; exact h7 k hk
  · rw [pk_un (by omega)]; exact h8 k hk
  · rw [pk_un (by omega)]; exact h9 k hk
  · by_cases e : k = c
    · subst e; rw [pk_us]; exact pk_us
    · rw [pk_un (by omega)]; exact (pk_un e).trans (h10 k hk)
  · rw [pk_un (by omega)]; exact h11
  · rw [pk_un (by omega)]; exact h12
  · rw [pk_un (by omega)]; exact h13
abbrev w_us (x : TMa) (f : Int32) : TMa := (x.1, x.2.1, x.2.2.1, x.2.2.2.1, x.2.2.2.2.1, x.2.2.2.2.2.1, x.2.2.2.2.2.2.1, x.2.2.2.2.2.2.2.1, x.2.2.2.2.2.2.2.2.1, x.2.2.2.2.2.2.2.2.2.1, x.2.2.2.2.2.2.2.2.2.2.1, f, x.2.2.2.2.2.2.2.2.2.2.2.2.1, x.2.2.2.2.2.2.2.2.2.2.2.2.2)
theorem mr_us {x : TMa} {sv : Nat → Int32} {v : Int32} (h : mrel x sv) : mrel (w_us x v) (upd sv 28 v) := by
  obtain ⟨h0, h1, h2, h3, h4, h5, h6, h7, h8, h9, h10, h11, h12, h13⟩ := h
  refine ⟨fun k hk => ?_, fun k hk => ?_, fun k hk => ?_, fun k hk => ?_, fun k hk => ?_, fun k hk => ?_, fun k hk => ?_, fun k hk => ?_, fun k hk => ?_, fun k hk => ?_, fun k hk => ?_, ?_, ?_, ?_⟩
  · rw [pk_un (by omega)]; exact h0 k hk
  · rw [pk_un (by omega)]; exact h1 k hk
  · rw [pk_un (by omega)]; exact h2 k hk
  · rw [pk_un (by omega)]; exact h3 k hk
  · rw [pk_un (by omega)]; exact h4 k hk
  · rw [pk_un (by omega)]; exact h5 k hk
  · rw [pk_un (by omega)]; exact h6 k hk
  · rw [pk_un (by omega)]; exact h7 k hk
  · rw [pk_un (by omega)]; exact h8 k hk
  · rw [pk_un (by omega)]; exact h9 k hk
  · rw [pk_un (by omega)]; exact h10 k hk
  · rw [pk_us]
  · rw [pk_un (by omega)]; exact h12
  · rw [pk_un (by omega)]; exact h13
abbrev w_sp (x : TMa) (f : Int32) : TMa := (x.1, x.2.1, x.2.2.1, x.2.2.2.1, x.2.2.2.2.1, x.2.2.2.2.2.1, x.2.2.2.2.2.2.1, x.2.2.2.2.2.2.2.1, x.2.2.2.2.2.2.2.2.1, x.2.2.2.2.2.2.2.2.2.1, x.2.2.2.2.2.2.2.2.2.2.1, x.2.2.2.2.2.2.2.2.2.2.2.1, f, x.2.2.2.2.2.2.2.2.2.2.2.2.2)
theorem mr_sp {x : TMa} {sv : Nat → Int32} {v : Int32} (h : mrel x sv) : mrel (w_sp x v) (upd sv 29 v) := by
  obtain ⟨h0, h1, h2, h3, h4, h5, h6, h7, h8, h9, h10, h11, h12, h13⟩ := h
  refine ⟨fun k hk => ?_, fun k hk => ?_, fun k hk => ?_, fun k hk => ?_, fun k hk => ?_, fun k hk => ?_, fun k hk => ?_, fun k hk => ?_, fun k hk => ?_, fun k hk => ?_, fun k hk => ?_, ?_, ?_, ?_⟩
  · rw [pk_un (by omega)]; exact h0 k hk
  · rw [pk_un (by omega)]; exact h1 k hk
  · rw [pk_un (by omega)]; exact h2 k hk
  · rw [pk_un (by omega)]; exact h3 k hk
  · rw [pk_un (by omega)]; exact h4 k hk
  · rw [pk_un (by omega)]; exact h5 k hk
  · rw [pk_un (by omega)]; exact h6 k hk
  · rw [pk_un (by omega)]; exact h7 k hk
  · rw [pk_un (by omega)]; exact h8 k hk
  · rw [pk_un (by omega)]; exact h9 k hk
  · rw [pk_un (by omega)]; exact h10 k hk
  · rw [pk_un (by omega)]; exact h11
  · rw [pk_us]
  · rw [pk_un (by omega)]; exact h13
abbrev w_rf (x : TMa) (f : Int32) : TMa := (x.1, x.2.1, x.2.2.1, x.2.2.2.1, x.2.2.2.2.1, x.2.2.2.2.2.1, x.2.2.2.2.2.2.1, x.2.2.2.2.2.2.2.1, x.2.2.2.2.2.2.2.2.1, x.2.2.2.2.2.2.2.2.2.1, x.2.2.2.2.2.2.2.2.2.2.1, x.2.2.2.2.2.2.2.2.2.2.2.1, x.2.2.2.2.2.2.2.2.2.2.2.2.1, f)
theorem mr_rf {x : TMa} {sv : Nat → Int32} {v : Int32} (h : mrel x sv) : mrel (w_rf x v) (upd sv 30 v) := by
  obtain ⟨h0, h1, h2, h3, h4, h5, h6, h7, h8, h9, h10, h11, h12, h13⟩ := h
  refine ⟨fun k hk => ?_, fun k hk => ?_, fun k hk => ?_, fun k hk => ?_, fun k hk => ?_, fun k hk => ?_, fun k hk => ?_, fun k hk => ?_, fun k hk => ?_, fun k hk => ?_, fun k hk => ?_, ?_, ?_, ?_⟩
  · rw [pk_un (by omega)]; exact h0 k hk
  · rw [pk_un (by omega)]; exact h1 k hk
  · rw [pk_un (by omega)]; exact h2 k hk
  · rw [pk_un (by omega)]; exact h3 k hk
  · rw [pk_un (by omega)]; exact h4 k hk
  · rw [pk_un (by omega)]; exact h5 k hk
  · rw [pk_un (by omega)]; exact h6 k hk
  · rw [pk_un (by omega)]; exact h7 k hk
  · rw [pk_un (by omega)]; exact h8 k hk
  · rw [pk_un (by omega)]; exact h9 k hk
  · rw [pk_un (by omega)]; exact h10 k hk
  · rw [pk_un (by omega)]; exact h11
  · rw [pk_un (by omega)]; exact h12
  · rw [pk_us]
theorem upd_same {f : Nat → Int32} {k : Nat} : upd f k (f k) = f := funext fun j => by
  by_cases e : j = k
  · subst e; exact pk_us
  · exact pk_un e
