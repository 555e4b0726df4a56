set_option maxHeartbeats 40000000 in
set_option maxRecDepth 100000 in
theorem hs_all {p : Program} {l : Launch} {e : Env} {s : State} {m : MethodId} {args : Array Value} {below : List Frame} {meth : Method} {c : Code} {A : Nat → Prop} {Q : State → Prop} {D : va_G} {cI cC cQ : ClassId} {d0 : Nat} {n0 : Nat} {na : Nat → Nat} {s0 : Nat} {sa : Nat → Nat} {h1 : Nat} {h2 : Nat} {mm : Nat → Nat} {ma : Nat → Nat → Nat} {t0 : Nat} {p0 : Nat} {pa : Nat → Nat} {tk : Int32} {N : TMa} {S : TMa} {oo : Int32} {zz : Int32} {M0 : TMa} {M1 : TMa} {M2 : TMa} {M3 : TMa} {rs : Int32} {de : Int32} {pc : Int32} {pg : Int32} {sg : Nat → Int32} {ln : Int32} {po : Int32} {dd : Int32} {lt : Nat → Int32} {pl : Nat → Int32} {f1s : Nat → Int32} {s2s : Nat → Int32} {tms : Nat → Int32} (F : FxM p s m c args A D cI cC cQ cL_hangs 14) (g : okN N) (hoo : vp_in oo 4) (hzz : vp_in zz 5) (go : AtL p l e rm_L_hangs s m args below meth c A Q D 0 0 14 (DW cI cC cQ d0 n0 na s0 sa h1 h2 mm ma t0 p0 pa tk N S oo zz M0 M1 M2 M3 rs de pc pg sg ln po dd lt pl f1s s2s tms) [(0, .ref d0)] 1043 [.int 1]) : AtL p l e rm_L_hangs s m args below meth c A Q D 0 0 14 (DW cI cC cQ d0 n0 na s0 sa h1 h2 mm ma t0 p0 pa tk N S oo zz M0 M1 M2 M3 rs de pc pg sg ln po dd lt pl f1s s2s tms) [(0, .ref d0)] 0 [] := by
  refine hs_0 F g ?_
  have L : ∀ (fu : Nat) (al le bo nn k6 : Int32), ((4 : Int32).toInt - k6.toInt).toNat < fu → hgI N k6 al le bo nn → AtL p l e rm_L_hangs s m args below meth c A Q D 0 0 14 (DW cI cC cQ d0 n0 na s0 sa h1 h2 mm ma t0 p0 pa tk N S oo zz M0 M1 M2 M3 rs de pc pg sg ln po dd lt pl f1s s2s tms) [(6, .int k6), (5, .int 1), (4, .int nn), (3, .int bo), (2, .int le), (1, .int al), (0, .ref d0)] 100 [] := by
    intro fu
    induction fu with
    | zero => intro al le bo nn k6 h; exact absurd h (Nat.not_lt_zero _)
    | succ fu ih =>
      intro al le bo nn k6 hmu hI
      by_cases h4 : 4 ≤ k6
      · refine hs_prn0 F h4 ?_
        refine hs_prn (qq := 0) F g (k_in (by decide)) (by decide) ?_
        refine hs_prn (qq := 1) F g (k_in (by decide)) (by decide) ?_
        exact hs_end F g hzz hI h4 (by decide) rfl rfl go
      · have hk := hgI_in hI h4
        refine hs_cup F g hoo hzz hk h4 (fun v w hv hw => ?_)
        refine hs_dots (dts := 1) F g hk ⟨by decide, by decide⟩ (by decide) ?_
        refine hs_dots (dts := 1 + 133) F g hk ⟨by decide, by decide⟩ (by decide) ?_
        refine hs_dots (dts := 1 + 133 + 133) F g hk ⟨by decide, by decide⟩ (by decide) ?_
        refine hs_next (dts := 1 + 133 + 133 + 133) F (by decide) ?_
        exact ih _ _ _ _ _ (k_mu hmu h4) (hgI_up hI h4 hv hw)
  exact L _ 0 0 0 0 0 (Nat.lt_succ_self _) hgI_0
set_option maxHeartbeats 40000000 in
set_option maxRecDepth 100000 in
theorem c_L_hangs (l : Launch) (D : va_G) (cI cC cQ : ClassId) (sz : Nat) (d0 : Nat) (n0 : Nat) (na : Nat → Nat) (s0 : Nat) (sa : Nat → Nat) (h1 : Nat) (h2 : Nat) (mm : Nat → Nat) (ma : Nat → Nat → Nat) (t0 : Nat) (p0 : Nat) (pa : Nat → Nat) (tk : Int32) (N : TMa) (S : TMa) (oo : Int32) (zz : Int32) (M0 : TMa) (M1 : TMa) (M2 : TMa) (M3 : TMa) (rs : Int32) (de : Int32) (pc : Int32) (pg : Int32) (sg : Nat → Int32) (ln : Int32) (po : Int32) (dd : Int32) (lt : Nat → Int32) (pl : Nat → Int32) (f1s : Nat → Int32) (s2s : Nat → Int32) (tms : Nat → Int32) (g : okN N) (hoo : vp_in oo 4) (hzz : vp_in zz 5) : Met l yL_hangs (wsO yL_hangs cL_hangs 14 (some .boolean)) rm_L_hangs (va_Pc [.ref d0] (inW D (TYS cI cC cQ) (DW cI cC cQ d0 n0 na s0 sa h1 h2 mm ma t0 p0 pa tk N S oo zz M0 M1 M2 M3 rs de pc pg sg ln po dd lt pl f1s s2s tms) sz)) (va_Qi (fun (r : Int32) (_ : Unit) => r = 1) (fun (u : Unit) => atW D (TYS cI cC cQ) (va_A (DW cI cC cQ d0 n0 na s0 sa h1 h2 mm ma t0 p0 pa tk N S oo zz M0 M1 M2 M3 rs de pc pg sg ln po dd lt pl f1s s2s tms) sz) (DW cI cC cQ d0 n0 na s0 sa h1 h2 mm ma t0 p0 pa tk N S oo zz M0 M1 M2 M3 rs de pc pg sg ln po dd lt pl f1s s2s tms)) (va_A (DW cI cC cQ d0 n0 na s0 sa h1 h2 mm ma t0 p0 pa tk N S oo zz M0 M1 M2 M3 rs de pc pg sg ln po dd lt pl f1s s2s tms) sz)) 0 0 (va_A (DW cI cC cQ d0 n0 na s0 sa h1 h2 mm ma t0 p0 pa tk N S oo zz M0 M1 M2 M3 rs de pc pg sg ln po dd lt pl f1s s2s tms) sz) := by
  refine k_meti .boolean rfl (by decide) (Nat.le_of_ble_eq_true rfl) ?_
  intro p e s m args below meth c A ls Q H locs hargs hret hx hb hts hown hml hname hN hA hS hP hK hD hl
  have hl : lv_has ls 14 [(0, .ref d0)] := hl
  exact hs_all (p := p) (e := e) (args := args) (below := below) (meth := meth) (Q := Q) ⟨hx, hb, hml, hown, hts, hN, hA, hK⟩ g hoo hzz (fun H locs ls hP hD hS hl => hret _ _ _ _ 1 () dL_hangs_1043 rfl rfl hP hD hS) H locs ls hP hD hS hl
