theorem k_out19 {x : Int32} (h0 : ¬ x = 0) (h1 : ¬ x = 1) (h2 : ¬ x = 2) (h3 : ¬ x = 3) (h4 : ¬ x = 4) (h5 : ¬ x = 5) (h6 : ¬ x = 6) (h7 : ¬ x = 7) (h8 : ¬ x = 8) (h9 : ¬ x = 9) (h10 : ¬ x = 10) (h11 : ¬ x = 11) (h12 : ¬ x = 12) (h13 : ¬ x = 13) (h14 : ¬ x = 14) (h15 : ¬ x = 15) (h16 : ¬ x = 16) (h17 : ¬ x = 17) (h18 : ¬ x = 18) : x.toInt < 0 ∨ 18 < x.toInt := by
  have h0 := k_ne h0
  rw [show (0 : Int32).toInt = 0 from rfl] at h0
  have h1 := k_ne h1
  rw [show (1 : Int32).toInt = 1 from rfl] at h1
  have h2 := k_ne h2
  rw [show (2 : Int32).toInt = 2 from rfl] at h2
  have h3 := k_ne h3
  rw [show (3 : Int32).toInt = 3 from rfl] at h3
  have h4 := k_ne h4
  rw [show (4 : Int32).toInt = 4 from rfl] at h4
  have h5 := k_ne h5
  rw [show (5 : Int32).toInt = 5 from rfl] at h5
  have h6 := k_ne h6
  rw [show (6 : Int32).toInt = 6 from rfl] at h6
  have h7 := k_ne h7
  rw [show (7 : Int32).toInt = 7 from rfl] at h7
  have h8 := k_ne h8
  rw [show (8 : Int32).toInt = 8 from rfl] at h8
  have h9 := k_ne h9
  rw [show (9 : Int32).toInt = 9 from rfl] at h9
  have h10 := k_ne h10
  rw [show (10 : Int32).toInt = 10 from rfl] at h10
  have h11 := k_ne h11
  rw [show (11 : Int32).toInt = 11 from rfl] at h11
  have h12 := k_ne h12
  rw [show (12 : Int32).toInt = 12 from rfl] at h12
  have h13 := k_ne h13
  rw [show (13 : Int32).toInt = 13 from rfl] at h13
  have h14 := k_ne h14
  rw [show (14 : Int32).toInt = 14 from rfl] at h14
  have h15 := k_ne h15
  rw [show (15 : Int32).toInt = 15 from rfl] at h15
  have h16 := k_ne h16
  rw [show (16 : Int32).toInt = 16 from rfl] at h16
  have h17 := k_ne h17
  rw [show (17 : Int32).toInt = 17 from rfl] at h17
  have h18 := k_ne h18
  rw [show (18 : Int32).toInt = 18 from rfl] at h18
  omega
theorem padr_clr {sg : Nat → Int32} {ln r v : Int32} (e : (r, v) = sh_X4_clear ln) : padr sg sg v := by
  have h : v = 0 := (Prod.mk.inj e).2
  rw [h]; exact padr_0
theorem padr_apd {sg f : Nat → Int32} {ln r v x : Int32} (h : padr sg sg ln) (e : (r, f, v) = sh_X4_append sg ln x) : padr f f v := padr_app h e
def lp_L_acts_248 (tk : Int32) (N : TMa) (S : TMa) (oo : Int32) (zz : Int32) (M0 : TMa) (M1 : TMa) (M2 : TMa) (M3 : TMa) (rs : Int32) (de : Int32) (pc : Int32) (pg : Int32) (po : Int32) (dd : Int32) (lt : Nat → Int32) (pl : Nat → Int32) (f1s : Nat → Int32) (s2s : Nat → Int32) (tms : Nat → Int32) (x1 : Int32) : Nat → (Int32) → (Int32) → (Nat → Int32) → (Int32) → (Int32 × (Int32) × (TMa) × (TMa) × (Int32) × (Int32) × (TMa) × (TMa) × (TMa) × (TMa) × (Int32) × (Int32) × (Int32) × (Int32) × (Nat → Int32) × (Int32) × (Int32) × (Int32) × (Nat → Int32) × (Nat → Int32) × (Nat → Int32) × (Nat → Int32) × (Nat → Int32))
  | 0, _, _, _, _ => ((0 : Int32), (0 : Int32), (default : TMa), (default : TMa), (0 : Int32), (0 : Int32), (default : TMa), (default : TMa), (default : TMa), (default : TMa), (0 : Int32), (0 : Int32), (0 : Int32), (0 : Int32), (fun _ => (0 : Int32)), (0 : Int32), (0 : Int32), (0 : Int32), (fun _ => (0 : Int32)), (fun _ => (0 : Int32)), (fun _ => (0 : Int32)), (fun _ => (0 : Int32)), (fun _ => (0 : Int32)))
  | fu + 1, n3, k4, l_sg, l_ln => (if (1 + ((x1 / 32) - (x1 / 32) / 4 * 4)) ≤ k4 then (if n3 < 1 then ((-9 : Int32), tk, N, S, oo, zz, M0, M1, M2, M3, rs, de, pc, pg, l_sg, l_ln, po, dd, lt, pl, f1s, s2s, tms) else (kb (sh_X4_fault l_sg l_ln lt pl f1s s2s tms) (fun z_r129 => (if z_r129.1 = (-4) then (kb (sh_X4_run N oo zz M0 M1 M2 M3 rs de pc pg l_sg l_ln z_r129.2.2.2.1 z_r129.2.2.2.2.1 z_r129.2.2.2.2.2.1 z_r129.2.2.2.2.2.2.1 z_r129.2.2.2.2.2.2.2) (fun z_r140 => (z_r140.1, tk, z_r140.2.1, S, z_r140.2.2.1, z_r140.2.2.2.1, z_r140.2.2.2.2.1, z_r140.2.2.2.2.2.1, z_r140.2.2.2.2.2.2.1, z_r140.2.2.2.2.2.2.2.1, z_r140.2.2.2.2.2.2.2.2.1, z_r140.2.2.2.2.2.2.2.2.2.1, z_r140.2.2.2.2.2.2.2.2.2.2.1, z_r140.2.2.2.2.2.2.2.2.2.2.2.1, l_sg, z_r140.2.2.2.2.2.2.2.2.2.2.2.2.1, z_r140.2.2.2.2.2.2.2.2.2.2.2.2.2.1, z_r140.2.2.2.2.2.2.2.2.2.2.2.2.2.2.1, z_r140.2.2.2.2.2.2.2.2.2.2.2.2.2.2.2.1, z_r140.2.2.2.2.2.2.2.2.2.2.2.2.2.2.2.2.1, z_r140.2.2.2.2.2.2.2.2.2.2.2.2.2.2.2.2.2.1, z_r140.2.2.2.2.2.2.2.2.2.2.2.2.2.2.2.2.2.2.1, z_r140.2.2.2.2.2.2.2.2.2.2.2.2.2.2.2.2.2.2.2))) else ((-9 : Int32), tk, N, S, oo, zz, M0, M1, M2, M3, rs, de, pc, pg, l_sg, l_ln, z_r129.2.1, z_r129.2.2.1, z_r129.2.2.2.1, z_r129.2.2.2.2.1, z_r129.2.2.2.2.2.1, z_r129.2.2.2.2.2.2.1, z_r129.2.2.2.2.2.2.2))))) else (if k4 ≤ 0 then (if 5 ≤ ((((x1 / 32) / 4) >>> ((5 * k4) &&& 31)) - (((x1 / 32) / 4) >>> ((5 * k4) &&& 31)) / 8 * 8) then (kb (α := (Int32)) (if ((((x1 / 32) / 4) >>> ((5 * k4) &&& 31)) - (((x1 / 32) / 4) >>> ((5 * k4) &&& 31)) / 8 * 8) = 5 then 115 else 109) (fun z_v166 => (kb (sh_X4_append l_sg l_ln z_v166) (fun z_r167 => (kb (sh_X4_append z_r167.2.1 z_r167.2.2 (48 + (((((x1 / 32) / 4) >>> ((5 * k4) &&& 31)) / 8) - ((((x1 / 32) / 4) >>> ((5 * k4) &&& 31)) / 8) / 4 * 4))) (fun z_r172 => (if ((((x1 / 32) / 4) >>> ((5 * k4) &&& 31)) - (((x1 / 32) / 4) >>> ((5 * k4) &&& 31)) / 8 * 8) ≤ 5 then (if ((((x1 / 32) / 4) >>> ((5 * k4) &&& 31)) - (((x1 / 32) / 4) >>> ((5 * k4) &&& 31)) / 8 * 8) ≤ 5 then (lp_L_acts_248 tk N S oo zz M0 M1 M2 M3 rs de pc pg po dd lt pl f1s s2s tms x1 fu z_r172.1 (k4 + 1) z_r172.2.1 z_r172.2.2) else (kb (sh_X4_append z_r172.2.1 z_r172.2.2 (48 + (((((x1 / 32) / 4) >>> ((5 * k4) &&& 31)) / 32) - ((((x1 / 32) / 4) >>> ((5 * k4) &&& 31)) / 32) / 2 * 2))) (fun z_r179 => (lp_L_acts_248 tk N S oo zz M0 M1 M2 M3 rs de pc pg po dd lt pl f1s s2s tms x1 fu z_r179.1 (k4 + 1) z_r179.2.1 z_r179.2.2)))) else (kb (sh_X4_append z_r172.2.1 z_r172.2.2 62) (fun z_r184 => (if ((((x1 / 32) / 4) >>> ((5 * k4) &&& 31)) - (((x1 / 32) / 4) >>> ((5 * k4) &&& 31)) / 8 * 8) ≤ 5 then (lp_L_acts_248 tk N S oo zz M0 M1 M2 M3 rs de pc pg po dd lt pl f1s s2s tms x1 fu z_r184.1 (k4 + 1) z_r184.2.1 z_r184.2.2) else (kb (sh_X4_append z_r184.2.1 z_r184.2.2 (48 + (((((x1 / 32) / 4) >>> ((5 * k4) &&& 31)) / 32) - ((((x1 / 32) / 4) >>> ((5 * k4) &&& 31)) / 32) / 2 * 2))) (fun z_r190 => (lp_L_acts_248 tk N S oo zz M0 M1 M2 M3 rs de pc pg po dd lt pl f1s s2s tms x1 fu z_r190.1 (k4 + 1) z_r190.2.1 z_r190.2.2))))))))))))) else (kb (sh_X4_append l_sg l_ln 112) (fun z_r195 => (kb (sh_X4_append z_r195.2.1 z_r195.2.2 (48 + (((((x1 / 32) / 4) >>> ((5 * k4) &&& 31)) / 8) - ((((x1 / 32) / 4) >>> ((5 * k4) &&& 31)) / 8) / 2 * 2))) (fun z_r200 => (kb (sh_X4_append z_r200.2.1 z_r200.2.2 58) (fun z_r205 => (kb (sh_X4_append z_r205.2.1 z_r205.2.2 (49 + (((((x1 / 32) / 4) >>> ((5 * k4) &&& 31)) / 16) - ((((x1 / 32) / 4) >>> ((5 * k4) &&& 31)) / 16) / 9 * 9))) (fun z_r210 => (if 3 ≤ ((((x1 / 32) / 4) >>> ((5 * k4) &&& 31)) - (((x1 / 32) / 4) >>> ((5 * k4) &&& 31)) / 8 * 8) then (if 1 ≤ ((((x1 / 32) / 4) >>> ((5 * k4) &&& 31)) - (((x1 / 32) / 4) >>> ((5 * k4) &&& 31)) / 8 * 8) then (if (((((x1 / 32) / 4) >>> ((5 * k4) &&& 31)) / 16) - ((((x1 / 32) / 4) >>> ((5 * k4) &&& 31)) / 16) / 3 * 3) = 0 then (kb (sh_X4_append z_r210.2.1 z_r210.2.2 120) (fun z_r224 => (if (((((x1 / 32) / 4) >>> ((5 * k4) &&& 31)) / 16) - ((((x1 / 32) / 4) >>> ((5 * k4) &&& 31)) / 16) / 3 * 3) = 0 then (kb (sh_X4_append z_r224.2.1 z_r224.2.2 (50 + (((((x1 / 32) / 4) >>> ((5 * k4) &&& 31)) / 128) - ((((x1 / 32) / 4) >>> ((5 * k4) &&& 31)) / 128) / 8 * 8))) (fun z_r230 => (lp_L_acts_248 tk N S oo zz M0 M1 M2 M3 rs de pc pg po dd lt pl f1s s2s tms x1 fu z_r230.1 (k4 + 1) z_r230.2.1 z_r230.2.2))) else (lp_L_acts_248 tk N S oo zz M0 M1 M2 M3 rs de pc pg po dd lt pl f1s s2s tms x1 fu z_r224.1 (k4 + 1) z_r224.2.1 z_r224.2.2)))) else (if (((((x1 / 32) / 4) >>> ((5 * k4) &&& 31)) / 16) - ((((x1 / 32) / 4) >>> ((5 * k4) &&& 31)) / 16) / 3 * 3) = 0 then (kb (sh_X4_append z_r210.2.1 z_r210.2.2 (50 + (((((x1 / 32) / 4) >>> ((5 * k4) &&& 31)) / 128) - ((((x1 / 32) / 4) >>> ((5 * k4) &&& 31)) / 128) / 8 * 8))) (fun z_r219 => (lp_L_acts_248 tk N S oo zz M0 M1 M2 M3 rs de pc pg po dd lt pl f1s s2s tms x1 fu z_r219.1 (k4 + 1) z_r219.2.1 z_r219.2.2))) else (lp_L_acts_248 tk N S oo zz M0 M1 M2 M3 rs de pc pg po dd lt pl f1s s2s tms x1 fu z_r210.1 (k4 + 1) z_r210.2.1 z_r210.2.2))) else (kb (sh_X4_append z_r210.2.1 z_r210.2.2 (48 + (((((x1 / 32) / 4) >>> ((5 * k4) &&& 31)) / 64) - ((((x1 / 32) / 4) >>> ((5 * k4) &&& 31)) / 64) / 10 * 10))) (fun z_r235 => (if (((((x1 / 32) / 4) >>> ((5 * k4) &&& 31)) / 16) - ((((x1 / 32) / 4) >>> ((5 * k4) &&& 31)) / 16) / 3 * 3) = 0 then (kb (sh_X4_append z_r235.2.1 z_r235.2.2 120) (fun z_r247 => (if (((((x1 / 32) / 4) >>> ((5 * k4) &&& 31)) / 16) - ((((x1 / 32) / 4) >>> ((5 * k4) &&& 31)) / 16) / 3 * 3) = 0 then (kb (sh_X4_append z_r247.2.1 z_r247.2.2 (50 + (((((x1 / 32) / 4) >>> ((5 * k4) &&& 31)) / 128) - ((((x1 / 32) / 4) >>> ((5 * k4) &&& 31)) / 128) / 8 * 8))) (fun z_r253 => (lp_L_acts_248 tk N S oo zz M0 M1 M2 M3 rs de pc pg po dd lt pl f1s s2s tms x1 fu z_r253.1 (k4 + 1) z_r253.2.1 z_r253.2.2))) else (lp_L_acts_248 tk N S oo zz M0 M1 M2 M3 rs de pc pg po dd lt pl f1s s2s tms x1 fu z_r247.1 (k4 + 1) z_r247.2.1 z_r247.2.2)))) else (if (((((x1 / 32) / 4) >>> ((5 * k4) &&& 31)) / 16) - ((((x1 / 32) / 4) >>> ((5 * k4) &&& 31)) / 16) / 3 * 3) = 0 then (kb (sh_X4_append z_r235.2.1 z_r235.2.2 (50 + (((((x1 / 32) / 4) >>> ((5 * k4) &&& 31)) / 128) - ((((x1 / 32) / 4) >>> ((5 * k4) &&& 31)) / 128) / 8 * 8))) (fun z_r242 => (lp_L_acts_248 tk N S oo zz M0 M1 M2 M3 rs de pc pg po dd lt pl f1s s2s tms x1 fu z_r242.1 (k4 + 1) z_r242.2.1 z_r242.2.2))) else (lp_L_acts_248 tk N S oo zz M0 M1 M2 M3 rs de pc pg po dd lt pl f1s s2s tms x1 fu z_r235.1 (k4 + 1) z_r235.2.1 z_r235.2.2)))))) else (kb (sh_X4_append z_r210.2.1 z_r210.2.2 (48 + (((((x1 / 32) / 4) >>> ((5 * k4) &&& 31)) / 32) - ((((x1 / 32) / 4) >>> ((5 * k4) &&& 31)) / 32) / 10 * 10))) (fun z_r258 => (if 1 ≤ ((((x1 / 32) / 4) >>> ((5 * k4) &&& 31)) - (((x1 / 32) / 4) >>> ((5 * k4) &&& 31)) / 8 * 8) then (if (((((x1 / 32) / 4) >>> ((5 * k4) &&& 31)) / 16) - ((((x1 / 32) / 4) >>> ((5 * k4) &&& 31)) / 16) / 3 * 3) = 0 then (kb (sh_X4_append z_r258.2.1 z_r258.2.2 120) (fun z_r271 => (if (((((x1 / 32) / 4) >>> ((5 * k4) &&& 31)) / 16) - ((((x1 / 32) / 4) >>> ((5 * k4) &&& 31)) / 16) / 3 * 3) = 0 then (kb (sh_X4_append z_r271.2.1 z_r271.2.2 (50 + (((((x1 / 32) / 4) >>> ((5 * k4) &&& 31)) / 128) - ((((x1 / 32) / 4) >>> ((5 * k4) &&& 31)) / 128) / 8 * 8))) (fun z_r277 => (lp_L_acts_248 tk N S oo zz M0 M1 M2 M3 rs de pc pg po dd lt pl f1s s2s tms x1 fu z_r277.1 (k4 + 1) z_r277.2.1 z_r277.2.2))) else (lp_L_acts_248 tk N S oo zz M0 M1 M2 M3 rs de pc pg po dd lt pl f1s s2s tms x1 fu z_r271.1 (k4 + 1) z_r271.2.1 z_r271.2.2)))) else (if (((((x1 / 32) / 4) >>> ((5 * k4) &&& 31)) / 16) - ((((x1 / 32) / 4) >>> ((5 * k4) &&& 31)) / 16) / 3 * 3) = 0 then (kb (sh_X4_append z_r258.2.1 z_r258.2.2 (50 + (((((x1 / 32) / 4) >>> ((5 * k4) &&& 31)) / 128) - ((((x1 / 32) / 4) >>> ((5 * k4) &&& 31)) / 128) / 8 * 8))) (fun z_r266 => (lp_L_acts_248 tk N S oo zz M0 M1 M2 M3 rs de pc pg po dd lt pl f1s s2s tms x1 fu z_r266.1 (k4 + 1) z_r266.2.1 z_r266.2.2))) else (lp_L_acts_248 tk N S oo zz M0 M1 M2 M3 rs de pc pg po dd lt pl f1s s2s tms x1 fu z_r258.1 (k4 + 1) z_r258.2.1 z_r258.2.2))) else (kb (sh_X4_append z_r258.2.1 z_r258.2.2 (48 + (((((x1 / 32) / 4) >>> ((5 * k4) &&& 31)) / 64) - ((((x1 / 32) / 4) >>> ((5 * k4) &&& 31)) / 64) / 10 * 10))) (fun z_r282 => (if (((((x1 / 32) / 4) >>> ((5 * k4) &&& 31)) / 16) - ((((x1 / 32) / 4) >>> ((5 * k4) &&& 31)) / 16) / 3 * 3) = 0 then (kb (sh_X4_append z_r282.2.1 z_r282.2.2 120) (fun z_r294 => (if (((((x1 / 32) / 4) >>> ((5 * k4) &&& 31)) / 16) - ((((x1 / 32) / 4) >>> ((5 * k4) &&& 31)) / 16) / 3 * 3) = 0 then (kb (sh_X4_append z_r294.2.1 z_r294.2.2 (50 + (((((x1 / 32) / 4) >>> ((5 * k4) &&& 31)) / 128) - ((((x1 / 32) / 4) >>> ((5 * k4) &&& 31)) / 128) / 8 * 8))) (fun z_r300 => (lp_L_acts_248 tk N S oo zz M0 M1 M2 M3 rs de pc pg po dd lt pl f1s s2s tms x1 fu z_r300.1 (k4 + 1) z_r300.2.1 z_r300.2.2))) else (lp_L_acts_248 tk N S oo zz M0 M1 M2 M3 rs de pc pg po dd lt pl f1s s2s tms x1 fu z_r294.1 (k4 + 1) z_r294.2.1 z_r294.2.2)))) else (if (((((x1 / 32) / 4) >>> ((5 * k4) &&& 31)) / 16) - ((((x1 / 32) / 4) >>> ((5 * k4) &&& 31)) / 16) / 3 * 3) = 0 then (kb (sh_X4_append z_r282.2.1 z_r282.2.2 (50 + (((((x1 / 32) / 4) >>> ((5 * k4) &&& 31)) / 128) - ((((x1 / 32) / 4) >>> ((5 * k4) &&& 31)) / 128) / 8 * 8))) (fun z_r289 => (lp_L_acts_248 tk N S oo zz M0 M1 M2 M3 rs de pc pg po dd lt pl f1s s2s tms x1 fu z_r289.1 (k4 + 1) z_r289.2.1 z_r289.2.2))) else (lp_L_acts_248 tk N S oo zz M0 M1 M2 M3 rs de pc pg po dd lt pl f1s s2s tms x1 fu z_r282.1 (k4 + 1) z_r282.2.1 z_r282.2.2)))))))))))))))))) else (kb (sh_X4_append l_sg l_ln 59) (fun z_r305 => (if 5 ≤ ((((x1 / 32) / 4) >>> ((5 * k4) &&& 31)) - (((x1 / 32) / 4) >>> ((5 * k4) &&& 31)) / 8 * 8) then (kb (α := (Int32)) (if ((((x1 / 32) / 4) >>> ((5 * k4) &&& 31)) - (((x1 / 32) / 4) >>> ((5 * k4) &&& 31)) / 8 * 8) = 5 then 115 else 109) (fun z_v313 => (kb (sh_X4_append z_r305.2.1 z_r305.2.2 z_v313) (fun z_r314 => (kb (sh_X4_append z_r314.2.1 z_r314.2.2 (48 + (((((x1 / 32) / 4) >>> ((5 * k4) &&& 31)) / 8) - ((((x1 / 32) / 4) >>> ((5 * k4) &&& 31)) / 8) / 4 * 4))) (fun z_r319 => (if ((((x1 / 32) / 4) >>> ((5 * k4) &&& 31)) - (((x1 / 32) / 4) >>> ((5 * k4) &&& 31)) / 8 * 8) ≤ 5 then (if ((((x1 / 32) / 4) >>> ((5 * k4) &&& 31)) - (((x1 / 32) / 4) >>> ((5 * k4) &&& 31)) / 8 * 8) ≤ 5 then (lp_L_acts_248 tk N S oo zz M0 M1 M2 M3 rs de pc pg po dd lt pl f1s s2s tms x1 fu z_r319.1 (k4 + 1) z_r319.2.1 z_r319.2.2) else (kb (sh_X4_append z_r319.2.1 z_r319.2.2 (48 + (((((x1 / 32) / 4) >>> ((5 * k4) &&& 31)) / 32) - ((((x1 / 32) / 4) >>> ((5 * k4) &&& 31)) / 32) / 2 * 2))) (fun z_r326 => (lp_L_acts_248 tk N S oo zz M0 M1 M2 M3 rs de pc pg po dd lt pl f1s s2s tms x1 fu z_r326.1 (k4 + 1) z_r326.2.1 z_r326.2.2)))) else (kb (sh_X4_append z_r319.2.1 z_r319.2.2 62) (fun z_r331 => (if ((((x1 / 32) / 4) >>> ((5 * k4) &&& 31)) - (((x1 / 32) / 4) >>> ((5 * k4) &&& 31)) / 8 * 8) ≤ 5 then (lp_L_acts_248 tk N S oo zz M0 M1 M2 M3 rs de pc pg po dd lt pl f1s s2s tms x1 fu z_r331.1 (k4 + 1) z_r331.2.1 z_r331.2.2) else (kb (sh_X4_append z_r331.2.1 z_r331.2.2 (48 + (((((x1 / 32) / 4) >>> ((5 * k4) &&& 31)) / 32) - ((((x1 / 32) / 4) >>> ((5 * k4) &&& 31)) / 32) / 2 * 2))) (fun z_r337 => (lp_L_acts_248 tk N S oo zz M0 M1 M2 M3 rs de pc pg po dd lt pl f1s s2s tms x1 fu z_r337.1 (k4 + 1) z_r337.2.1 z_r337.2.2))))))))))))) else (kb (sh_X4_append z_r305.2.1 z_r305.2.2 112) (fun z_r342 => (kb (sh_X4_append z_r342.2.1 z_r342.2.2 (48 + (((((x1 / 32) / 4) >>> ((5 * k4) &&& 31)) / 8) - ((((x1 / 32) / 4) >>> ((5 * k4) &&& 31)) / 8) / 2 * 2))) (fun z_r347 => (kb (sh_X4_append z_r347.2.1 z_r347.2.2 58) (fun z_r352 => (kb (sh_X4_append z_r352.2.1 z_r352.2.2 (49 + (((((x1 / 32) / 4) >>> ((5 * k4) &&& 31)) / 16) - ((((x1 / 32) / 4) >>> ((5 * k4) &&& 31)) / 16) / 9 * 9))) (fun z_r357 => (if 3 ≤ ((((x1 / 32) / 4) >>> ((5 * k4) &&& 31)) - (((x1 / 32) / 4) >>> ((5 * k4) &&& 31)) / 8 * 8) then (if 1 ≤ ((((x1 / 32) / 4) >>> ((5 * k4) &&& 31)) - (((x1 / 32) / 4) >>> ((5 * k4) &&& 31)) / 8 * 8) then (if (((((x1 / 32) / 4) >>> ((5 * k4) &&& 31)) / 16) - ((((x1 / 32) / 4) >>> ((5 * k4) &&& 31)) / 16) / 3 * 3) = 0 then (kb (sh_X4_append z_r357.2.1 z_r357.2.2 120) (fun z_r371 => (if (((((x1 / 32) / 4) >>> ((5 * k4) &&& 31)) / 16) - ((((x1 / 32) / 4) >>> ((5 * k4) &&& 31)) / 16) / 3 * 3) = 0 then (kb (sh_X4_append z_r371.2.1 z_r371.2.2 (50 + (((((x1 / 32) / 4) >>> ((5 * k4) &&& 31)) / 128) - ((((x1 / 32) / 4) >>> ((5 * k4) &&& 31)) / 128) / 8 * 8))) (fun z_r377 => (lp_L_acts_248 tk N S oo zz M0 M1 M2 M3 rs de pc pg po dd lt pl f1s s2s tms x1 fu z_r377.1 (k4 + 1) z_r377.2.1 z_r377.2.2))) else (lp_L_acts_248 tk N S oo zz M0 M1 M2 M3 rs de pc pg po dd lt pl f1s s2s tms x1 fu z_r371.1 (k4 + 1) z_r371.2.1 z_r371.2.2)))) else (if (((((x1 / 32) / 4) >>> ((5 * k4) &&& 31)) / 16) - ((((x1 / 32) / 4) >>> ((5 * k4) &&& 31)) / 16) / 3 * 3) = 0 then (kb (sh_X4_append z_r357.2.1 z_r357.2.2 (50 + (((((x1 / 32) / 4) >>> ((5 * k4) &&& 31)) / 128) - ((((x1 / 32) / 4) >>> ((5 * k4) &&& 31)) / 128) / 8 * 8))) (fun z_r366 => (lp_L_acts_248 tk N S oo zz M0 M1 M2 M3 rs de pc pg po dd lt pl f1s s2s tms x1 fu z_r366.1 (k4 + 1) z_r366.2.1 z_r366.2.2))) else (lp_L_acts_248 tk N S oo zz M0 M1 M2 M3 rs de pc pg po dd lt pl f1s s2s tms x1 fu z_r357.1 (k4 + 1) z_r357.2.1 z_r357.2.2))) else (kb (sh_X4_append z_r357.2.1 z_r357.2.2 (48 + (((((x1 / 32) / 4) >>> ((5 * k4) &&& 31)) / 64) - ((((x1 / 32) / 4) >>> ((5 * k4) &&& 31)) / 64) / 10 * 10))) (fun z_r382 => (if (((((x1 / 32) / 4) >>> ((5 * k4) &&& 31)) / 16) - ((((x1 / 32) / 4) >>> ((5 * k4) &&& 31)) / 16) / 3 * 3) = 0 then (kb (sh_X4_append z_r382.2.1 z_r382.2.2 120) (fun z_r394 => (if (((((x1 / 32) / 4) >>> ((5 * k4) &&& 31)) / 16) - ((((x1 / 32) / 4) >>> ((5 * k4) &&& 31)) / 16) / 3 * 3) = 0 then (kb (sh_X4_append z_r394.2.1 z_r394.2.2 (50 + (((((x1 / 32) / 4) >>> ((5 * k4) &&& 31)) / 128) - ((((x1 / 32) / 4) >>> ((5 * k4) &&& 31)) / 128) / 8 * 8))) (fun z_r400 => (lp_L_acts_248 tk N S oo zz M0 M1 M2 M3 rs de pc pg po dd lt pl f1s s2s tms x1 fu z_r400.1 (k4 + 1) z_r400.2.1 z_r400.2.2))) else (lp_L_acts_248 tk N S oo zz M0 M1 M2 M3 rs de pc pg po dd lt pl f1s s2s tms x1 fu z_r394.1 (k4 + 1) z_r394.2.1 z_r394.2.2)))) else (if (((((x1 / 32) / 4) >>> ((5 * k4) &&& 31)) / 16) - ((((x1 / 32) / 4) >>> ((5 * k4) &&& 31)) / 16) / 3 * 3) = 0 then (kb (sh_X4_append z_r382.2.1 z_r382.2.2 (50 + (((((x1 / 32) / 4) >>> ((5 * k4) &&& 31)) / 128) - ((((x1 / 32) / 4) >>> ((5 * k4) &&& 31)) / 128) / 8 * 8))) (fun z_r389 => (lp_L_acts_248 tk N S oo zz M0 M1 M2 M3 rs de pc pg po dd lt pl f1s s2s tms x1 fu z_r389.1 (k4 + 1) z_r389.2.1 z_r389.2.2))) else (lp_L_acts_248 tk N S oo zz M0 M1 M2 M3 rs de pc pg po dd lt pl f1s s2s tms x1 fu z_r382.1 (k4 + 1) z_r382.2.1 z_r382.2.2)))))) else (kb (sh_X4_append z_r357.2.1 z_r357.2.2 (48 + (((((x1 / 32) / 4) >>> ((5 * k4) &&& 31)) / 32) - ((((x1 / 32) / 4) >>> ((5 * k4) &&& 31)) / 32) / 10 * 10))) (fun z_r405 => (if 1 ≤ ((((x1 / 32) / 4) >>> ((5 * k4) &&& 31)) - (((x1 / 32) / 4) >>> ((5 * k4) &&& 31)) / 8 * 8) then (if (((((x1 / 32) / 4) >>> ((5 * k4) &&& 31)) / 16) - ((((x1 / 32) / 4) >>> ((5 * k4) &&& 31)) / 16) / 3 * 3) = 0 then (kb (sh_X4_append z_r405.2.1 z_r405.2.2 120) (fun z_r418 => (if (((((x1 / 32) / 4) >>> ((5 * k4) &&& 31)) / 16) - ((((x1 / 32) / 4) >>> ((5 * k4) &&& 31)) / 16) / 3 * 3) = 0 then (kb (sh_X4_append z_r418.2.1 z_r418.2.2 (50 + (((((x1 / 32) / 4) >>> ((5 * k4) &&& 31)) / 128) - ((((x1 / 32) / 4) >>> ((5 * k4) &&& 31)) / 128) / 8 * 8))) (fun z_r424 => (lp_L_acts_248 tk N S oo zz M0 M1 M2 M3 rs de pc pg po dd lt pl f1s s2s tms x1 fu z_r424.1 (k4 + 1) z_r424.2.1 z_r424.2.2))) else (lp_L_acts_248 tk N S oo zz M0 M1 M2 M3 rs de pc pg po dd lt pl f1s s2s tms x1 fu z_r418.1 (k4 + 1) z_r418.2.1 z_r418.2.2)))) else (if (((((x1 / 32) / 4) >>> ((5 * k4) &&& 31)) / 16) - ((((x1 / 32) / 4) >>> ((5 * k4) &&& 31)) / 16) / 3 * 3) = 0 then (kb (sh_X4_append z_r405.2.1 z_r405.2.2 (50 + (((((x1 / 32) / 4) >>> ((5 * k4) &&& 31)) / 128) - ((((x1 / 32) / 4) >>> ((5 * k4) &&& 31)) / 128) / 8 * 8))) (fun z_r413 => (lp_L_acts_248 tk N S oo zz M0 M1 M2 M3 rs de pc pg po dd lt pl f1s s2s tms x1 fu z_r413.1 (k4 + 1) z_r413.2.1 z_r413.2.2))) else (lp_L_acts_248 tk N S oo zz M0 M1 M2 M3 rs de pc pg po dd lt pl f1s s2s tms x1 fu z_r405.1 (k4 + 1) z_r405.2.1 z_r405.2.2))) else (kb (sh_X4_append z_r405.2.1 z_r405.2.2 (48 + (((((x1 / 32) / 4) >>> ((5 * k4) &&& 31)) / 64) - ((((x1 / 32) / 4) >>> ((5 * k4) &&& 31)) / 64) / 10 * 10))) (fun z_r429 => (if (((((x1 / 32) / 4) >>> ((5 * k4) &&& 31)) / 16) - ((((x1 / 32) / 4) >>> ((5 * k4) &&& 31)) / 16) / 3 * 3) = 0 then (kb (sh_X4_append z_r429.2.1 z_r429.2.2 120) (fun z_r441 => (if (((((x1 / 32) / 4) >>> ((5 * k4) &&& 31)) / 16) - ((((x1 / 32) / 4) >>> ((5 * k4) &&& 31)) / 16) / 3 * 3) = 0 then (kb (sh_X4_append z_r441.2.1 z_r441.2.2 (50 + (((((x1 / 32) / 4) >>> ((5 * k4) &&& 31)) / 128) - ((((x1 / 32) / 4) >>> ((5 * k4) &&& 31)) / 128) / 8 * 8))) (fun z_r447 => (lp_L_acts_248 tk N S oo zz M0 M1 M2 M3 rs de pc pg po dd lt pl f1s s2s tms x1 fu z_r447.1 (k4 + 1) z_r447.2.1 z_r447.2.2))) else (lp_L_acts_248 tk N S oo zz M0 M1 M2 M3 rs de pc pg po dd lt pl f1s s2s tms x1 fu z_r441.1 (k4 + 1) z_r441.2.1 z_r441.2.2)))) else (if (((((x1 / 32) / 4) >>> ((5 * k4) &&& 31)) / 16) - ((((x1 / 32) / 4) >>> ((5 * k4) &&& 31)) / 16) / 3 * 3) = 0 then (kb (sh_X4_append z_r429.2.1 z_r429.2.2 (50 + (((((x1 / 32) / 4) >>> ((5 * k4) &&& 31)) / 128) - ((((x1 / 32) / 4) >>> ((5 * k4) &&& 31)) / 128) / 8 * 8))) (fun z_r436 => (lp_L_acts_248 tk N S oo zz M0 M1 M2 M3 rs de pc pg po dd lt pl f1s s2s tms x1 fu z_r436.1 (k4 + 1) z_r436.2.1 z_r436.2.2))) else (lp_L_acts_248 tk N S oo zz M0 M1 M2 M3 rs de pc pg po dd lt pl f1s s2s tms x1 fu z_r429.1 (k4 + 1) z_r429.2.1 z_r429.2.2))))))))))))))))))))))
def sh_L_acts (tk : Int32) (N : TMa) (S : TMa) (oo : Int32) (zz : Int32) (M0 : TMa) (M1 : TMa) (M2 : TMa) (M3 : TMa) (rs : Int32) (de : Int32) (pc : Int32) (pg : Int32) (sg : Nat → Int32) (ln : Int32) (po : Int32) (dd : Int32) (lt : Nat → Int32) (pl : Nat → Int32) (f1s : Nat → Int32) (s2s : Nat → Int32) (tms : Nat → Int32) (x1 : Int32) : Int32 × (Int32) × (TMa) × (TMa) × (Int32) × (Int32) × (TMa) × (TMa) × (TMa) × (TMa) × (Int32) × (Int32) × (Int32) × (Int32) × (Nat → Int32) × (Int32) × (Int32) × (Int32) × (Nat → Int32) × (Nat → Int32) × (Nat → Int32) × (Nat → Int32) × (Nat → Int32) := (if (x1 - x1 / 32 * 32) = 0 then (kb (sh_X4_shake N oo zz M0 M1 M2 M3 ((x1 / 32) - (x1 / 32) / 4 * 4)) (fun z_r20 => (z_r20.1, tk, z_r20.2.1, S, z_r20.2.2.1, z_r20.2.2.2.1, z_r20.2.2.2.2.1, z_r20.2.2.2.2.2.1, z_r20.2.2.2.2.2.2.1, z_r20.2.2.2.2.2.2.2, rs, de, pc, pg, sg, ln, po, dd, lt, pl, f1s, s2s, tms))) else (if (x1 - x1 / 32 * 32) = 1 then (kb (sh_X4_shake N oo zz M0 M1 M2 M3 ((x1 / 32) - (x1 / 32) / 4 * 4)) (fun z_r20 => (z_r20.1, tk, z_r20.2.1, S, z_r20.2.2.1, z_r20.2.2.2.1, z_r20.2.2.2.2.1, z_r20.2.2.2.2.2.1, z_r20.2.2.2.2.2.2.1, z_r20.2.2.2.2.2.2.2, rs, de, pc, pg, sg, ln, po, dd, lt, pl, f1s, s2s, tms))) else (if (x1 - x1 / 32 * 32) = 2 then (kb (sh_X4_shake N oo zz M0 M1 M2 M3 ((x1 / 32) - (x1 / 32) / 4 * 4)) (fun z_r20 => (z_r20.1, tk, z_r20.2.1, S, z_r20.2.2.1, z_r20.2.2.2.1, z_r20.2.2.2.2.1, z_r20.2.2.2.2.2.1, z_r20.2.2.2.2.2.2.1, z_r20.2.2.2.2.2.2.2, rs, de, pc, pg, sg, ln, po, dd, lt, pl, f1s, s2s, tms))) else (if (x1 - x1 / 32 * 32) = 3 then (kb (sh_X4_move N oo zz M0 M1 M2 M3 ((x1 / 32) - (x1 / 32) / 4 * 4) (((x1 / 32) / 4) - ((x1 / 32) / 4) / 2 * 2)) (fun z_r30 => (z_r30.1, tk, z_r30.2.1, S, z_r30.2.2.1, z_r30.2.2.2.1, z_r30.2.2.2.2.1, z_r30.2.2.2.2.2.1, z_r30.2.2.2.2.2.2.1, z_r30.2.2.2.2.2.2.2, rs, de, pc, pg, sg, ln, po, dd, lt, pl, f1s, s2s, tms))) else (if (x1 - x1 / 32 * 32) = 4 then (kb (sh_X4_move N oo zz M0 M1 M2 M3 ((x1 / 32) - (x1 / 32) / 4 * 4) (((x1 / 32) / 4) - ((x1 / 32) / 4) / 2 * 2)) (fun z_r30 => (z_r30.1, tk, z_r30.2.1, S, z_r30.2.2.1, z_r30.2.2.2.1, z_r30.2.2.2.2.1, z_r30.2.2.2.2.2.1, z_r30.2.2.2.2.2.2.1, z_r30.2.2.2.2.2.2.2, rs, de, pc, pg, sg, ln, po, dd, lt, pl, f1s, s2s, tms))) else (if (x1 - x1 / 32 * 32) = 5 then (kb (sh_X4_move N oo zz M0 M1 M2 M3 ((x1 / 32) - (x1 / 32) / 4 * 4) (((x1 / 32) / 4) - ((x1 / 32) / 4) / 2 * 2)) (fun z_r30 => (z_r30.1, tk, z_r30.2.1, S, z_r30.2.2.1, z_r30.2.2.2.1, z_r30.2.2.2.2.1, z_r30.2.2.2.2.2.1, z_r30.2.2.2.2.2.2.1, z_r30.2.2.2.2.2.2.2, rs, de, pc, pg, sg, ln, po, dd, lt, pl, f1s, s2s, tms))) else (if (x1 - x1 / 32 * 32) = 6 then (kb (sh_X4_takeOut N oo zz M0 M1 M2 M3 ((x1 / 32) - (x1 / 32) / 2 * 2)) (fun z_r40 => (z_r40.1, tk, z_r40.2.1, S, z_r40.2.2.1, z_r40.2.2.2.1, z_r40.2.2.2.2.1, z_r40.2.2.2.2.2.1, z_r40.2.2.2.2.2.2.1, z_r40.2.2.2.2.2.2.2, rs, de, pc, pg, sg, ln, po, dd, lt, pl, f1s, s2s, tms))) else (if (x1 - x1 / 32 * 32) = 7 then (kb (sh_X4_refill N oo zz M0 M1 M2 M3 ((x1 / 32) - (x1 / 32) / 4 * 4) (1 + (((x1 / 32) / 4) - ((x1 / 32) / 4) / 6000 * 6000))) (fun z_r50 => (z_r50.1, tk, z_r50.2.1, S, z_r50.2.2.1, z_r50.2.2.2.1, z_r50.2.2.2.2.1, z_r50.2.2.2.2.2.1, z_r50.2.2.2.2.2.2.1, z_r50.2.2.2.2.2.2.2, rs, de, pc, pg, sg, ln, po, dd, lt, pl, f1s, s2s, tms))) else (if (x1 - x1 / 32 * 32) = 8 then (kb (sh_X4_refill N oo zz M0 M1 M2 M3 ((x1 / 32) - (x1 / 32) / 4 * 4) (1 + (((x1 / 32) / 4) - ((x1 / 32) / 4) / 6000 * 6000))) (fun z_r50 => (z_r50.1, tk, z_r50.2.1, S, z_r50.2.2.1, z_r50.2.2.2.1, z_r50.2.2.2.2.1, z_r50.2.2.2.2.2.1, z_r50.2.2.2.2.2.2.1, z_r50.2.2.2.2.2.2.2, rs, de, pc, pg, sg, ln, po, dd, lt, pl, f1s, s2s, tms))) else (if (x1 - x1 / 32 * 32) = 9 then (if ((x1 / 32) - (x1 / 32) / 4 * 4) = 0 then (kb (sh_X4_set N oo zz M0 M1 M2 M3 0 (1 + (((x1 / 32) / 4) - ((x1 / 32) / 4) / 5 * 5))) (fun z_r93 => (z_r93.1, tk, z_r93.2.1, S, z_r93.2.2.1, z_r93.2.2.2.1, z_r93.2.2.2.2.1, z_r93.2.2.2.2.2.1, z_r93.2.2.2.2.2.2.1, z_r93.2.2.2.2.2.2.2, rs, de, pc, pg, sg, ln, po, dd, lt, pl, f1s, s2s, tms))) else (if ((x1 / 32) - (x1 / 32) / 4 * 4) = 1 then (kb (sh_X4_set N oo zz M0 M1 M2 M3 1 (2 + (((x1 / 32) / 4) - ((x1 / 32) / 4) / 49 * 49))) (fun z_r83 => (z_r83.1, tk, z_r83.2.1, S, z_r83.2.2.1, z_r83.2.2.2.1, z_r83.2.2.2.2.1, z_r83.2.2.2.2.2.1, z_r83.2.2.2.2.2.2.1, z_r83.2.2.2.2.2.2.2, rs, de, pc, pg, sg, ln, po, dd, lt, pl, f1s, s2s, tms))) else (if ((x1 / 32) - (x1 / 32) / 4 * 4) = 2 then (kb (sh_X4_set N oo zz M0 M1 M2 M3 2 (((x1 / 32) / 4) - ((x1 / 32) / 4) / 2 * 2)) (fun z_r73 => (z_r73.1, tk, z_r73.2.1, S, z_r73.2.2.1, z_r73.2.2.2.1, z_r73.2.2.2.2.1, z_r73.2.2.2.2.2.1, z_r73.2.2.2.2.2.2.1, z_r73.2.2.2.2.2.2.2, rs, de, pc, pg, sg, ln, po, dd, lt, pl, f1s, s2s, tms))) else (kb (sh_X4_set N oo zz M0 M1 M2 M3 3 (1 + (((x1 / 32) / 4) - ((x1 / 32) / 4) / 500 * 500))) (fun z_r63 => (z_r63.1, tk, z_r63.2.1, S, z_r63.2.2.1, z_r63.2.2.2.1, z_r63.2.2.2.2.1, z_r63.2.2.2.2.2.1, z_r63.2.2.2.2.2.2.1, z_r63.2.2.2.2.2.2.2, rs, de, pc, pg, sg, ln, po, dd, lt, pl, f1s, s2s, tms)))))) else (if (x1 - x1 / 32 * 32) = 10 then (if ((x1 / 32) - (x1 / 32) / 4 * 4) = 0 then (kb (sh_X4_set N oo zz M0 M1 M2 M3 0 (1 + (((x1 / 32) / 4) - ((x1 / 32) / 4) / 5 * 5))) (fun z_r93 => (z_r93.1, tk, z_r93.2.1, S, z_r93.2.2.1, z_r93.2.2.2.1, z_r93.2.2.2.2.1, z_r93.2.2.2.2.2.1, z_r93.2.2.2.2.2.2.1, z_r93.2.2.2.2.2.2.2, rs, de, pc, pg, sg, ln, po, dd, lt, pl, f1s, s2s, tms))) else (if ((x1 / 32) - (x1 / 32) / 4 * 4) = 1 then (kb (sh_X4_set N oo zz M0 M1 M2 M3 1 (2 + (((x1 / 32) / 4) - ((x1 / 32) / 4) / 49 * 49))) (fun z_r83 => (z_r83.1, tk, z_r83.2.1, S, z_r83.2.2.1, z_r83.2.2.2.1, z_r83.2.2.2.2.1, z_r83.2.2.2.2.2.1, z_r83.2.2.2.2.2.2.1, z_r83.2.2.2.2.2.2.2, rs, de, pc, pg, sg, ln, po, dd, lt, pl, f1s, s2s, tms))) else (if ((x1 / 32) - (x1 / 32) / 4 * 4) = 2 then (kb (sh_X4_set N oo zz M0 M1 M2 M3 2 (((x1 / 32) / 4) - ((x1 / 32) / 4) / 2 * 2)) (fun z_r73 => (z_r73.1, tk, z_r73.2.1, S, z_r73.2.2.1, z_r73.2.2.2.1, z_r73.2.2.2.2.1, z_r73.2.2.2.2.2.1, z_r73.2.2.2.2.2.2.1, z_r73.2.2.2.2.2.2.2, rs, de, pc, pg, sg, ln, po, dd, lt, pl, f1s, s2s, tms))) else (kb (sh_X4_set N oo zz M0 M1 M2 M3 3 (1 + (((x1 / 32) / 4) - ((x1 / 32) / 4) / 500 * 500))) (fun z_r63 => (z_r63.1, tk, z_r63.2.1, S, z_r63.2.2.1, z_r63.2.2.2.1, z_r63.2.2.2.2.1, z_r63.2.2.2.2.2.1, z_r63.2.2.2.2.2.2.1, z_r63.2.2.2.2.2.2.2, rs, de, pc, pg, sg, ln, po, dd, lt, pl, f1s, s2s, tms)))))) else (if (x1 - x1 / 32 * 32) = 11 then (kb (sh_X4_undo N oo zz M0 M1 M2 M3) (fun z_r103 => (z_r103.1, tk, z_r103.2.1, S, oo, z_r103.2.2, M0, M1, M2, M3, rs, de, pc, pg, sg, ln, po, dd, lt, pl, f1s, s2s, tms))) else (if (x1 - x1 / 32 * 32) = 12 then (kb (sh_X4_undo N oo zz M0 M1 M2 M3) (fun z_r103 => (z_r103.1, tk, z_r103.2.1, S, oo, z_r103.2.2, M0, M1, M2, M3, rs, de, pc, pg, sg, ln, po, dd, lt, pl, f1s, s2s, tms))) else (if (x1 - x1 / 32 * 32) = 13 then (kb (sh_X4_save N S) (fun z_r108 => (z_r108.1, z_r108.2.1, N, z_r108.2.2, oo, zz, M0, M1, M2, M3, rs, de, pc, pg, sg, ln, po, dd, lt, pl, f1s, s2s, tms))) else (if (x1 - x1 / 32 * 32) = 14 then (kb (sh_X4_restore tk N S oo zz M0 M1 M2 M3) (fun z_r113 => (z_r113.1, tk, z_r113.2.1, S, z_r113.2.2.1, z_r113.2.2.2.1, z_r113.2.2.2.2.1, z_r113.2.2.2.2.2.1, z_r113.2.2.2.2.2.2.1, z_r113.2.2.2.2.2.2.2, rs, de, pc, pg, sg, ln, po, dd, lt, pl, f1s, s2s, tms))) else (if (x1 - x1 / 32 * 32) = 15 then (kb (sh_X4_clear ln) (fun z_r123 => (lp_L_acts_248 tk N S oo zz M0 M1 M2 M3 rs de pc pg po dd lt pl f1s s2s tms x1 (((1 + ((x1 / 32) - (x1 / 32) / 4 * 4)).toInt - (0 : Int32).toInt).toNat + 1) z_r123.1 0 sg z_r123.2))) else (if (x1 - x1 / 32 * 32) = 16 then (kb (sh_X4_clear ln) (fun z_r123 => (lp_L_acts_248 tk N S oo zz M0 M1 M2 M3 rs de pc pg po dd lt pl f1s s2s tms x1 (((1 + ((x1 / 32) - (x1 / 32) / 4 * 4)).toInt - (0 : Int32).toInt).toNat + 1) z_r123.1 0 sg z_r123.2))) else (if (x1 - x1 / 32 * 32) = 17 then (kb (sh_X4_clear ln) (fun z_r123 => (lp_L_acts_248 tk N S oo zz M0 M1 M2 M3 rs de pc pg po dd lt pl f1s s2s tms x1 (((1 + ((x1 / 32) - (x1 / 32) / 4 * 4)).toInt - (0 : Int32).toInt).toNat + 1) z_r123.1 0 sg z_r123.2))) else (if (x1 - x1 / 32 * 32) = 18 then (kb (sh_X4_clear ln) (fun z_r123 => (lp_L_acts_248 tk N S oo zz M0 M1 M2 M3 rs de pc pg po dd lt pl f1s s2s tms x1 (((1 + ((x1 / 32) - (x1 / 32) / 4 * 4)).toInt - (0 : Int32).toInt).toNat + 1) z_r123.1 0 sg z_r123.2))) else (if ((x1 / 32) - (x1 / 32) / 7 * 7) = 0 then (kb (sh_X4_print N oo zz M0 M1 M2 M3 ((x1 / 32) - (x1 / 32) / 2 * 2) (1 + (((x1 / 32) / 2) - ((x1 / 32) / 2) / 999 * 999))) (fun z_r463 => (z_r463.1, tk, z_r463.2.1, S, z_r463.2.2.1, z_r463.2.2.2.1, z_r463.2.2.2.2.1, z_r463.2.2.2.2.2.1, z_r463.2.2.2.2.2.2.1, z_r463.2.2.2.2.2.2.2, rs, de, pc, pg, sg, ln, po, dd, lt, pl, f1s, s2s, tms))) else (kb (sh_X4_print N oo zz M0 M1 M2 M3 ((x1 / 32) - (x1 / 32) / 2 * 2) (1 + (((x1 / 32) / 2) - ((x1 / 32) / 2) / 250 * 250))) (fun z_r453 => (z_r453.1, tk, z_r453.2.1, S, z_r453.2.2.1, z_r453.2.2.2.1, z_r453.2.2.2.2.1, z_r453.2.2.2.2.2.1, z_r453.2.2.2.2.2.2.1, z_r453.2.2.2.2.2.2.2, rs, de, pc, pg, sg, ln, po, dd, lt, pl, f1s, s2s, tms)))))))))))))))))))))))
abbrev rm_L_acts : Room := { frames := 6, cells := 0, slots := 0, locals := 141 }
theorem hd_L_acts : hdT yL_acts 2 := by decide +kernel
set_option maxHeartbeats 40000000 in
set_option maxRecDepth 100000 in
theorem c_L_acts (l : Launch) (D : va_G) (cI cC cQ : ClassId) (sz : Nat) (d0 : Nat) (n0 : Nat) (na : Nat → Nat) (s0 : Nat) (sa : Nat → Nat) (h1 : Nat) (h2 : Nat) (mm : Nat → Nat) (ma : Nat → Nat → Nat) (t0 : Nat) (p0 : Nat) (pa : Nat → Nat) (tk : Int32) (N : TMa) (S : TMa) (oo : Int32) (zz : Int32) (M0 : TMa) (M1 : TMa) (M2 : TMa) (M3 : TMa) (rs : Int32) (de : Int32) (pc : Int32) (pg : Int32) (sg : Nat → Int32) (ln : Int32) (po : Int32) (dd : Int32) (lt : Nat → Int32) (pl : Nat → Int32) (f1s : Nat → Int32) (s2s : Nat → Int32) (tms : Nat → Int32) (x1 : Int32) (hoo : vp_in oo 4) (hzz : vp_in zz 5) (hpad : padr sg sg ln) : Met l yL_acts (wsO yL_acts cL_acts 6 (some .int)) rm_L_acts (va_Pc [.ref d0, .int x1] (inZ D (TYS cI cC cQ) (DW cI cC cQ d0 n0 na s0 sa h1 h2 mm ma t0 p0 pa tk N S oo zz M0 M1 M2 M3 rs de pc pg sg ln po dd lt pl f1s s2s tms) sz)) (va_Qi (fun (r : Int32) (u : (Int32) × (TMa) × (TMa) × (Int32) × (Int32) × (TMa) × (TMa) × (TMa) × (TMa) × (Int32) × (Int32) × (Int32) × (Int32) × (Nat → Int32) × (Int32) × (Int32) × (Int32) × (Nat → Int32) × (Nat → Int32) × (Nat → Int32) × (Nat → Int32) × (Nat → Int32)) => (r, u) = sh_L_acts tk N S oo zz M0 M1 M2 M3 rs de pc pg sg ln po dd lt pl f1s s2s tms x1) (fun (u : (Int32) × (TMa) × (TMa) × (Int32) × (Int32) × (TMa) × (TMa) × (TMa) × (TMa) × (Int32) × (Int32) × (Int32) × (Int32) × (Nat → Int32) × (Int32) × (Int32) × (Int32) × (Nat → Int32) × (Nat → Int32) × (Nat → Int32) × (Nat → Int32) × (Nat → Int32)) => atW D (TYS cI cC cQ) (va_A (DW cI cC cQ d0 n0 na s0 sa h1 h2 mm ma t0 p0 pa tk N S oo zz M0 M1 M2 M3 rs de pc pg sg ln po dd lt pl f1s s2s tms) sz) (DW cI cC cQ d0 n0 na s0 sa h1 h2 mm ma t0 p0 pa u.1 u.2.1 u.2.2.1 u.2.2.2.1 u.2.2.2.2.1 u.2.2.2.2.2.1 u.2.2.2.2.2.2.1 u.2.2.2.2.2.2.2.1 u.2.2.2.2.2.2.2.2.1 u.2.2.2.2.2.2.2.2.2.1 u.2.2.2.2.2.2.2.2.2.2.1 u.2.2.2.2.2.2.2.2.2.2.2.1 u.2.2.2.2.2.2.2.2.2.2.2.2.1 u.2.2.2.2.2.2.2.2.2.2.2.2.2.1 u.2.2.2.2.2.2.2.2.2.2.2.2.2.2.1 u.2.2.2.2.2.2.2.2.2.2.2.2.2.2.2.1 u.2.2.2.2.2.2.2.2.2.2.2.2.2.2.2.2.1 u.2.2.2.2.2.2.2.2.2.2.2.2.2.2.2.2.2.1 u.2.2.2.2.2.2.2.2.2.2.2.2.2.2.2.2.2.2.1 u.2.2.2.2.2.2.2.2.2.2.2.2.2.2.2.2.2.2.2.1 u.2.2.2.2.2.2.2.2.2.2.2.2.2.2.2.2.2.2.2.2.1 u.2.2.2.2.2.2.2.2.2.2.2.2.2.2.2.2.2.2.2.2.2)) (va_A (DW cI cC cQ d0 n0 na s0 sa h1 h2 mm ma t0 p0 pa tk N S oo zz M0 M1 M2 M3 rs de pc pg sg ln po dd lt pl f1s s2s tms) sz)) 0 0 (va_A (DW cI cC cQ d0 n0 na s0 sa h1 h2 mm ma t0 p0 pa tk N S oo zz M0 M1 M2 M3 rs de pc pg sg ln po dd lt pl f1s s2s tms) sz) := by
  refine k_metZ .int rfl (by decide) (Nat.le_of_ble_eq_true rfl) ?_
  intro p e s m args below meth c A ls Q H locs hargs hZ hret hx hb hts hown hml hname hN hA hS hP hK hD hl
  have hl : lv_has ls 6 [(0, .ref d0), (1, .int x1)] := hl
  obtain ⟨Xq, hX⟩ : ∃ Xq, Xq = sh_L_acts tk N S oo zz M0 M1 M2 M3 rs de pc pg sg ln po dd lt pl f1s s2s tms x1 := ⟨_, rfl⟩
  have hq : Xq = (if (x1 - x1 / 32 * 32) = 0 then (kb (sh_X4_shake N oo zz M0 M1 M2 M3 ((x1 / 32) - (x1 / 32) / 4 * 4)) (fun z_r20 => (z_r20.1, tk, z_r20.2.1, S, z_r20.2.2.1, z_r20.2.2.2.1, z_r20.2.2.2.2.1, z_r20.2.2.2.2.2.1, z_r20.2.2.2.2.2.2.1, z_r20.2.2.2.2.2.2.2, rs, de, pc, pg, sg, ln, po, dd, lt, pl, f1s, s2s, tms))) else (if (x1 - x1 / 32 * 32) = 1 then (kb (sh_X4_shake N oo zz M0 M1 M2 M3 ((x1 / 32) - (x1 / 32) / 4 * 4)) (fun z_r20 => (z_r20.1, tk, z_r20.2.1, S, z_r20.2.2.1, z_r20.2.2.2.1, z_r20.2.2.2.2.1, z_r20.2.2.2.2.2.1, z_r20.2.2.2.2.2.2.1, z_r20.2.2.2.2.2.2.2, rs, de, pc, pg, sg, ln, po, dd, lt, pl, f1s, s2s, tms))) else (if (x1 - x1 / 32 * 32) = 2 then (kb (sh_X4_shake N oo zz M0 M1 M2 M3 ((x1 / 32) - (x1 / 32) / 4 * 4)) (fun z_r20 => (z_r20.1, tk, z_r20.2.1, S, z_r20.2.2.1, z_r20.2.2.2.1, z_r20.2.2.2.2.1, z_r20.2.2.2.2.2.1, z_r20.2.2.2.2.2.2.1, z_r20.2.2.2.2.2.2.2, rs, de, pc, pg, sg, ln, po, dd, lt, pl, f1s, s2s, tms))) else (if (x1 - x1 / 32 * 32) = 3 then (kb (sh_X4_move N oo zz M0 M1 M2 M3 ((x1 / 32) - (x1 / 32) / 4 * 4) (((x1 / 32) / 4) - ((x1 / 32) / 4) / 2 * 2)) (fun z_r30 => (z_r30.1, tk, z_r30.2.1, S, z_r30.2.2.1, z_r30.2.2.2.1, z_r30.2.2.2.2.1, z_r30.2.2.2.2.2.1, z_r30.2.2.2.2.2.2.1, z_r30.2.2.2.2.2.2.2, rs, de, pc, pg, sg, ln, po, dd, lt, pl, f1s, s2s, tms))) else (if (x1 - x1 / 32 * 32) = 4 then (kb (sh_X4_move N oo zz M0 M1 M2 M3 ((x1 / 32) - (x1 / 32) / 4 * 4) (((x1 / 32) / 4) - ((x1 / 32) / 4) / 2 * 2)) (fun z_r30 => (z_r30.1, tk, z_r30.2.1, S, z_r30.2.2.1, z_r30.2.2.2.1, z_r30.2.2.2.2.1, z_r30.2.2.2.2.2.1, z_r30.2.2.2.2.2.2.1, z_r30.2.2.2.2.2.2.2, rs, de, pc, pg, sg, ln, po, dd, lt, pl, f1s, s2s, tms))) else (if (x1 - x1 / 32 * 32) = 5 then (kb (sh_X4_move N oo zz M0 M1 M2 M3 ((x1 / 32) - (x1 / 32) / 4 * 4) (((x1 / 32) / 4) - ((x1 / 32) / 4) / 2 * 2)) (fun z_r30 => (z_r30.1, tk, z_r30.2.1, S, z_r30.2.2.1, z_r30.2.2.2.1, z_r30.2.2.2.2.1, z_r30.2.2.2.2.2.1, z_r30.2.2.2.2.2.2.1, z_r30.2.2.2.2.2.2.2, rs, de, pc, pg, sg, ln, po, dd, lt, pl, f1s, s2s, tms))) else (if (x1 - x1 / 32 * 32) = 6 then (kb (sh_X4_takeOut N oo zz M0 M1 M2 M3 ((x1 / 32) - (x1 / 32) / 2 * 2)) (fun z_r40 => (z_r40.1, tk, z_r40.2.1, S, z_r40.2.2.1, z_r40.2.2.2.1, z_r40.2.2.2.2.1, z_r40.2.2.2.2.2.1, z_r40.2.2.2.2.2.2.1, z_r40.2.2.2.2.2.2.2, rs, de, pc, pg, sg, ln, po, dd, lt, pl, f1s, s2s, tms))) else (if (x1 - x1 / 32 * 32) = 7 then (kb (sh_X4_refill N oo zz M0 M1 M2 M3 ((x1 / 32) - (x1 / 32) / 4 * 4) (1 + (((x1 / 32) / 4) - ((x1 / 32) / 4) / 6000 * 6000))) (fun z_r50 => (z_r50.1, tk, z_r50.2.1, S, z_r50.2.2.1, z_r50.2.2.2.1, z_r50.2.2.2.2.1, z_r50.2.2.2.2.2.1, z_r50.2.2.2.2.2.2.1, z_r50.2.2.2.2.2.2.2, rs, de, pc, pg, sg, ln, po, dd, lt, pl, f1s, s2s, tms))) else (if (x1 - x1 / 32 * 32) = 8 then (kb (sh_X4_refill N oo zz M0 M1 M2 M3 ((x1 / 32) - (x1 / 32) / 4 * 4) (1 + (((x1 / 32) / 4) - ((x1 / 32) / 4) / 6000 * 6000))) (fun z_r50 => (z_r50.1, tk, z_r50.2.1, S, z_r50.2.2.1, z_r50.2.2.2.1, z_r50.2.2.2.2.1, z_r50.2.2.2.2.2.1, z_r50.2.2.2.2.2.2.1, z_r50.2.2.2.2.2.2.2, rs, de, pc, pg, sg, ln, po, dd, lt, pl, f1s, s2s, tms))) else (if (x1 - x1 / 32 * 32) = 9 then (if ((x1 / 32) - (x1 / 32) / 4 * 4) = 0 then (kb (sh_X4_set N oo zz M0 M1 M2 M3 0 (1 + (((x1 / 32) / 4) - ((x1 / 32) / 4) / 5 * 5))) (fun z_r93 => (z_r93.1, tk, z_r93.2.1, S, z_r93.2.2.1, z_r93.2.2.2.1, z_r93.2.2.2.2.1, z_r93.2.2.2.2.2.1, z_r93.2.2.2.2.2.2.1, z_r93.2.2.2.2.2.2.2, rs, de, pc, pg, sg, ln, po, dd, lt, pl, f1s, s2s, tms))) else (if ((x1 / 32) - (x1 / 32) / 4 * 4) = 1 then (kb (sh_X4_set N oo zz M0 M1 M2 M3 1 (2 + (((x1 / 32) / 4) - ((x1 / 32) / 4) / 49 * 49))) (fun z_r83 => (z_r83.1, tk, z_r83.2.1, S, z_r83.2.2.1, z_r83.2.2.2.1, z_r83.2.2.2.2.1, z_r83.2.2.2.2.2.1, z_r83.2.2.2.2.2.2.1, z_r83.2.2.2.2.2.2.2, rs, de, pc, pg, sg, ln, po, dd, lt, pl, f1s, s2s, tms))) else (if ((x1 / 32) - (x1 / 32) / 4 * 4) = 2 then (kb (sh_X4_set N oo zz M0 M1 M2 M3 2 (((x1 / 32) / 4) - ((x1 / 32) / 4) / 2 * 2)) (fun z_r73 => (z_r73.1, tk, z_r73.2.1, S, z_r73.2.2.1, z_r73.2.2.2.1, z_r73.2.2.2.2.1, z_r73.2.2.2.2.2.1, z_r73.2.2.2.2.2.2.1, z_r73.2.2.2.2.2.2.2, rs, de, pc, pg, sg, ln, po, dd, lt, pl, f1s, s2s, tms))) else (kb (sh_X4_set N oo zz M0 M1 M2 M3 3 (1 + (((x1 / 32) / 4) - ((x1 / 32) / 4) / 500 * 500))) (fun z_r63 => (z_r63.1, tk, z_r63.2.1, S, z_r63.2.2.1, z_r63.2.2.2.1, z_r63.2.2.2.2.1, z_r63.2.2.2.2.2.1, z_r63.2.2.2.2.2.2.1, z_r63.2.2.2.2.2.2.2, rs, de, pc, pg, sg, ln, po, dd, lt, pl, f1s, s2s, tms)))))) else (if (x1 - x1 / 32 * 32) = 10 then (if ((x1 / 32) - (x1 / 32) / 4 * 4) = 0 then (kb (sh_X4_set N oo zz M0 M1 M2 M3 0 (1 + (((x1 / 32) / 4) - ((x1 / 32) / 4) / 5 * 5))) (fun z_r93 => (z_r93.1, tk, z_r93.2.1, S, z_r93.2.2.1, z_r93.2.2.2.1, z_r93.2.2.2.2.1, z_r93.2.2.2.2.2.1, z_r93.2.2.2.2.2.2.1, z_r93.2.2.2.2.2.2.2, rs, de, pc, pg, sg, ln, po, dd, lt, pl, f1s, s2s, tms))) else (if ((x1 / 32) - (x1 / 32) / 4 * 4) = 1 then (kb (sh_X4_set N oo zz M0 M1 M2 M3 1 (2 + (((x1 / 32) / 4) - ((x1 / 32) / 4) / 49 * 49))) (fun z_r83 => (z_r83.1, tk, z_r83.2.1, S, z_r83.2.2.1, z_r83.2.2.2.1, z_r83.2.2.2.2.1, z_r83.2.2.2.2.2.1, z_r83.2.2.2.2.2.2.1, z_r83.2.2.2.2.2.2.2, rs, de, pc, pg, sg, ln, po, dd, lt, pl, f1s, s2s, tms))) else (if ((x1 / 32) - (x1 / 32) / 4 * 4) = 2 then (kb (sh_X4_set N oo zz M0 M1 M2 M3 2 (((x1 / 32) / 4) - ((x1 / 32) / 4) / 2 * 2)) (fun z_r73 => (z_r73.1, tk, z_r73.2.1, S, z_r73.2.2.1, z_r73.2.2.2.1, z_r73.2.2.2.2.1, z_r73.2.2.2.2.2.1, z_r73.2.2.2.2.2.2.1, z_r73.2.2.2.2.2.2.2, rs, de, pc, pg, sg, ln, po, dd, lt, pl, f1s, s2s, tms))) else (kb (sh_X4_set N oo zz M0 M1 M2 M3 3 (1 + (((x1 / 32) / 4) - ((x1 / 32) / 4) / 500 * 500))) (fun z_r63 => (z_r63.1, tk, z_r63.2.1, S, z_r63.2.2.1, z_r63.2.2.2.1, z_r63.2.2.2.2.1, z_r63.2.2.2.2.2.1, z_r63.2.2.2.2.2.2.1, z_r63.2.2.2.2.2.2.2, rs, de, pc, pg, sg, ln, po, dd, lt, pl, f1s, s2s, tms)))))) else (if (x1 - x1 / 32 * 32) = 11 then (kb (sh_X4_undo N oo zz M0 M1 M2 M3) (fun z_r103 => (z_r103.1, tk, z_r103.2.1, S, oo, z_r103.2.2, M0, M1, M2, M3, rs, de, pc, pg, sg, ln, po, dd, lt, pl, f1s, s2s, tms))) else (if (x1 - x1 / 32 * 32) = 12 then (kb (sh_X4_undo N oo zz M0 M1 M2 M3) (fun z_r103 => (z_r103.1, tk, z_r103.2.1, S, oo, z_r103.2.2, M0, M1, M2, M3, rs, de, pc, pg, sg, ln, po, dd, lt, pl, f1s, s2s, tms))) else (if (x1 - x1 / 32 * 32) = 13 then (kb (sh_X4_save N S) (fun z_r108 => (z_r108.1, z_r108.2.1, N, z_r108.2.2, oo, zz, M0, M1, M2, M3, rs, de, pc, pg, sg, ln, po, dd, lt, pl, f1s, s2s, tms))) else (if (x1 - x1 / 32 * 32) = 14 then (kb (sh_X4_restore tk N S oo zz M0 M1 M2 M3) (fun z_r113 => (z_r113.1, tk, z_r113.2.1, S, z_r113.2.2.1, z_r113.2.2.2.1, z_r113.2.2.2.2.1, z_r113.2.2.2.2.2.1, z_r113.2.2.2.2.2.2.1, z_r113.2.2.2.2.2.2.2, rs, de, pc, pg, sg, ln, po, dd, lt, pl, f1s, s2s, tms))) else (if (x1 - x1 / 32 * 32) = 15 then (kb (sh_X4_clear ln) (fun z_r123 => (lp_L_acts_248 tk N S oo zz M0 M1 M2 M3 rs de pc pg po dd lt pl f1s s2s tms x1 (((1 + ((x1 / 32) - (x1 / 32) / 4 * 4)).toInt - (0 : Int32).toInt).toNat + 1) z_r123.1 0 sg z_r123.2))) else (if (x1 - x1 / 32 * 32) = 16 then (kb (sh_X4_clear ln) (fun z_r123 => (lp_L_acts_248 tk N S oo zz M0 M1 M2 M3 rs de pc pg po dd lt pl f1s s2s tms x1 (((1 + ((x1 / 32) - (x1 / 32) / 4 * 4)).toInt - (0 : Int32).toInt).toNat + 1) z_r123.1 0 sg z_r123.2))) else (if (x1 - x1 / 32 * 32) = 17 then (kb (sh_X4_clear ln) (fun z_r123 => (lp_L_acts_248 tk N S oo zz M0 M1 M2 M3 rs de pc pg po dd lt pl f1s s2s tms x1 (((1 + ((x1 / 32) - (x1 / 32) / 4 * 4)).toInt - (0 : Int32).toInt).toNat + 1) z_r123.1 0 sg z_r123.2))) else (if (x1 - x1 / 32 * 32) = 18 then (kb (sh_X4_clear ln) (fun z_r123 => (lp_L_acts_248 tk N S oo zz M0 M1 M2 M3 rs de pc pg po dd lt pl f1s s2s tms x1 (((1 + ((x1 / 32) - (x1 / 32) / 4 * 4)).toInt - (0 : Int32).toInt).toNat + 1) z_r123.1 0 sg z_r123.2))) else (if ((x1 / 32) - (x1 / 32) / 7 * 7) = 0 then (kb (sh_X4_print N oo zz M0 M1 M2 M3 ((x1 / 32) - (x1 / 32) / 2 * 2) (1 + (((x1 / 32) / 2) - ((x1 / 32) / 2) / 999 * 999))) (fun z_r463 => (z_r463.1, tk, z_r463.2.1, S, z_r463.2.2.1, z_r463.2.2.2.1, z_r463.2.2.2.2.1, z_r463.2.2.2.2.2.1, z_r463.2.2.2.2.2.2.1, z_r463.2.2.2.2.2.2.2, rs, de, pc, pg, sg, ln, po, dd, lt, pl, f1s, s2s, tms))) else (kb (sh_X4_print N oo zz M0 M1 M2 M3 ((x1 / 32) - (x1 / 32) / 2 * 2) (1 + (((x1 / 32) / 2) - ((x1 / 32) / 2) / 250 * 250))) (fun z_r453 => (z_r453.1, tk, z_r453.2.1, S, z_r453.2.2.1, z_r453.2.2.2.1, z_r453.2.2.2.2.1, z_r453.2.2.2.2.2.1, z_r453.2.2.2.2.2.2.1, z_r453.2.2.2.2.2.2.2, rs, de, pc, pg, sg, ln, po, dd, lt, pl, f1s, s2s, tms))))))))))))))))))))))) := hX
  refine lv_iload_n hx hb dL_acts_0 rfl (lv_at hl 1 rfl) ?_
  refine lv_bipush (v := 32) hx hb dL_acts_1 (by decide) ?_
  refine lv_idiv hx hb dL_acts_3 (by decide) ?_
  refine lv_istore_n (lv' := [(2, .int (x1 / 32)), (0, .ref d0), (1, .int x1)]) hx hb dL_acts_4 rfl hl (by decide) rfl (fun ls hl => ?_)
  refine lv_iload_n hx hb dL_acts_5 rfl (lv_at hl 2 rfl) ?_
  refine lv_bipush (v := 32) hx hb dL_acts_6 (by decide) ?_
  refine lv_irem hx hb dL_acts_8 (by decide) ?_
  have K100 : ∀ (H : Heap) (locs : List Loc) (ls : Array Slot), Xq = (kb (sh_X4_shake N oo zz M0 M1 M2 M3 ((x1 / 32) - (x1 / 32) / 4 * 4)) (fun z_r20 => (z_r20.1, tk, z_r20.2.1, S, z_r20.2.2.1, z_r20.2.2.2.1, z_r20.2.2.2.2.1, z_r20.2.2.2.2.2.1, z_r20.2.2.2.2.2.2.1, z_r20.2.2.2.2.2.2.2, rs, de, pc, pg, sg, ln, po, dd, lt, pl, f1s, s2s, tms))) → va_P D vwCl (DW cI cC cQ d0 n0 na s0 sa h1 h2 mm ma t0 p0 pa tk N S oo zz M0 M1 M2 M3 rs de pc pg sg ln po dd lt pl f1s s2s tms) H → va_D A (DW cI cC cQ d0 n0 na s0 sa h1 h2 mm ma t0 p0 pa tk N S oo zz M0 M1 M2 M3 rs de pc pg sg ln po dd lt pl f1s s2s tms) → va_S A s.heap H locs → lv_has ls 6 [(2, .int (x1 / 32)), (0, .ref d0), (1, .int x1)] → W p l e rm_L_acts s m args below meth c H locs 0 0 Q (F0 m 100 ls []) := by
    intro H locs ls hq hP hD hS hl
    refine lv_aload_n hx hb dL_acts_100 rfl (lv_at hl 1 rfl) ?_
    refine lv_iload_n hx hb dL_acts_101 rfl (lv_at hl 0 rfl) ?_
    refine lv_iconst (v := 4) hx hb dL_acts_102 (by decide) ?_
    refine lv_irem hx hb dL_acts_103 (by decide) ?_
    have hPs := k_self hP
    have hDs := k_selfD hD
    refine k_behi (X := []) (Y := []) (va_runV (As := [.int ((x1 / 32) - (x1 / 32) / 4 * 4)]) (rest := []) ⟨hx, hb, hml, hown, hts⟩ (c_X4_shake l D cI cC cQ H.size d0 n0 na s0 sa h1 h2 mm ma t0 p0 pa tk N S oo zz M0 M1 M2 M3 rs de pc pg sg ln po dd lt pl f1s s2s tms ((x1 / 32) - (x1 / 32) / 4 * 4) (hoo) (hzz)) (kcwV hts wd_ml_RL_9 wd_im_yX4_shake wd_sel_yX4_shake wd_ini_RX4 wd_code_yX4_shake rfl rfl rfl hd_X4_shake ⟨Nat.le_of_ble_eq_true rfl, Nat.le_of_ble_eq_true rfl⟩) ⟨in_blind, va_recv hK (pa_l (pa_r hPs)) (ci := 4) (q0 := 0) rfl rfl, k_pre hK (pa_l (pa_r hPs)) (da_l (da_r hDs)) hN⟩ rfl rfl hl.1 rfl (lv_room (Nat.le_of_ble_eq_true rfl)) dL_acts_104 ⟨Nat.le_of_ble_eq_true rfl, Nat.le_of_ble_eq_true rfl⟩) hPs hDs hS hA (fun r20 u21 H locs hw22 hP hD hS => ?_)
    obtain ⟨t23, v24, v25, t26, t27, t28, t29⟩ := u21
    have hP := k_unP hP
    have hD := k_unD hD
    have hP : va_P D vwCl (DW cI cC cQ d0 n0 na s0 sa h1 h2 mm ma t0 p0 pa tk t23 S v24 v25 t26 t27 t28 t29 rs de pc pg sg ln po dd lt pl f1s s2s tms) H := hP
    have hD : va_D A (DW cI cC cQ d0 n0 na s0 sa h1 h2 mm ma t0 p0 pa tk t23 S v24 v25 t26 t27 t28 t29 rs de pc pg sg ln po dd lt pl f1s s2s tms) := hD
    have hw22 : (r20, t23, v24, v25, t26, t27, t28, t29) = (sh_X4_shake N oo zz M0 M1 M2 M3 ((x1 / 32) - (x1 / 32) / 4 * 4)) := hw22
    have hq := kb_to hq hw22
    exact hret _ _ _ _ (r20) (tk, t23, S, v24, v25, t26, t27, t28, t29, rs, de, pc, pg, sg, ln, po, dd, lt, pl, f1s, s2s, tms) dL_acts_107 rfl (hq.symm.trans hX) hP hD hS
  have K108 : ∀ (H : Heap) (locs : List Loc) (ls : Array Slot), Xq = (kb (sh_X4_move N oo zz M0 M1 M2 M3 ((x1 / 32) - (x1 / 32) / 4 * 4) (((x1 / 32) / 4) - ((x1 / 32) / 4) / 2 * 2)) (fun z_r30 => (z_r30.1, tk, z_r30.2.1, S, z_r30.2.2.1, z_r30.2.2.2.1, z_r30.2.2.2.2.1, z_r30.2.2.2.2.2.1, z_r30.2.2.2.2.2.2.1, z_r30.2.2.2.2.2.2.2, rs, de, pc, pg, sg, ln, po, dd, lt, pl, f1s, s2s, tms))) → va_P D vwCl (DW cI cC cQ d0 n0 na s0 sa h1 h2 mm ma t0 p0 pa tk N S oo zz M0 M1 M2 M3 rs de pc pg sg ln po dd lt pl f1s s2s tms) H → va_D A (DW cI cC cQ d0 n0 na s0 sa h1 h2 mm ma t0 p0 pa tk N S oo zz M0 M1 M2 M3 rs de pc pg sg ln po dd lt pl f1s s2s tms) → va_S A s.heap H locs → lv_has ls 6 [(2, .int (x1 / 32)), (0, .ref d0), (1, .int x1)] → W p l e rm_L_acts s m args below meth c H locs 0 0 Q (F0 m 108 ls []) := by
    intro H locs ls hq hP hD hS hl
    refine lv_aload_n hx hb dL_acts_108 rfl (lv_at hl 1 rfl) ?_
    refine lv_iload_n hx hb dL_acts_109 rfl (lv_at hl 0 rfl) ?_
    refine lv_iconst (v := 4) hx hb dL_acts_110 (by decide) ?_
    refine lv_irem hx hb dL_acts_111 (by decide) ?_
    refine lv_iload_n hx hb dL_acts_112 rfl (lv_at hl 0 rfl) ?_
    refine lv_iconst (v := 4) hx hb dL_acts_113 (by decide) ?_
    refine lv_idiv hx hb dL_acts_114 (by decide) ?_
    refine lv_iconst (v := 2) hx hb dL_acts_115 (by decide) ?_
    refine lv_irem hx hb dL_acts_116 (by decide) ?_
    have hPs := k_self hP
    have hDs := k_selfD hD
    refine k_behi (X := []) (Y := []) (va_runV (As := [.int ((x1 / 32) - (x1 / 32) / 4 * 4), .int (((x1 / 32) / 4) - ((x1 / 32) / 4) / 2 * 2)]) (rest := []) ⟨hx, hb, hml, hown, hts⟩ (c_X4_move l D cI cC cQ H.size d0 n0 na s0 sa h1 h2 mm ma t0 p0 pa tk N S oo zz M0 M1 M2 M3 rs de pc pg sg ln po dd lt pl f1s s2s tms ((x1 / 32) - (x1 / 32) / 4 * 4) (((x1 / 32) / 4) - ((x1 / 32) / 4) / 2 * 2) (hoo) (hzz)) (kcwV hts wd_ml_RL_15 wd_im_yX4_move wd_sel_yX4_move wd_ini_RX4 wd_code_yX4_move rfl rfl rfl hd_X4_move ⟨Nat.le_of_ble_eq_true rfl, Nat.le_of_ble_eq_true rfl⟩) ⟨in_blind, va_recv hK (pa_l (pa_r hPs)) (ci := 4) (q0 := 0) rfl rfl, k_pre hK (pa_l (pa_r hPs)) (da_l (da_r hDs)) hN⟩ rfl rfl hl.1 rfl (lv_room (Nat.le_of_ble_eq_true rfl)) dL_acts_117 ⟨Nat.le_of_ble_eq_true rfl, Nat.le_of_ble_eq_true rfl⟩) hPs hDs hS hA (fun r30 u31 H locs hw32 hP hD hS => ?_)
    obtain ⟨t33, v34, v35, t36, t37, t38, t39⟩ := u31
    have hP := k_unP hP
    have hD := k_unD hD
    have hP : va_P D vwCl (DW cI cC cQ d0 n0 na s0 sa h1 h2 mm ma t0 p0 pa tk t33 S v34 v35 t36 t37 t38 t39 rs de pc pg sg ln po dd lt pl f1s s2s tms) H := hP
    have hD : va_D A (DW cI cC cQ d0 n0 na s0 sa h1 h2 mm ma t0 p0 pa tk t33 S v34 v35 t36 t37 t38 t39 rs de pc pg sg ln po dd lt pl f1s s2s tms) := hD
    have hw32 : (r30, t33, v34, v35, t36, t37, t38, t39) = (sh_X4_move N oo zz M0 M1 M2 M3 ((x1 / 32) - (x1 / 32) / 4 * 4) (((x1 / 32) / 4) - ((x1 / 32) / 4) / 2 * 2)) := hw32
    have hq := kb_to hq hw32
    exact hret _ _ _ _ (r30) (tk, t33, S, v34, v35, t36, t37, t38, t39, rs, de, pc, pg, sg, ln, po, dd, lt, pl, f1s, s2s, tms) dL_acts_120 rfl (hq.symm.trans hX) hP hD hS
  have K129 : ∀ (H : Heap) (locs : List Loc) (ls : Array Slot), Xq = (kb (sh_X4_refill N oo zz M0 M1 M2 M3 ((x1 / 32) - (x1 / 32) / 4 * 4) (1 + (((x1 / 32) / 4) - ((x1 / 32) / 4) / 6000 * 6000))) (fun z_r50 => (z_r50.1, tk, z_r50.2.1, S, z_r50.2.2.1, z_r50.2.2.2.1, z_r50.2.2.2.2.1, z_r50.2.2.2.2.2.1, z_r50.2.2.2.2.2.2.1, z_r50.2.2.2.2.2.2.2, rs, de, pc, pg, sg, ln, po, dd, lt, pl, f1s, s2s, tms))) → va_P D vwCl (DW cI cC cQ d0 n0 na s0 sa h1 h2 mm ma t0 p0 pa tk N S oo zz M0 M1 M2 M3 rs de pc pg sg ln po dd lt pl f1s s2s tms) H → va_D A (DW cI cC cQ d0 n0 na s0 sa h1 h2 mm ma t0 p0 pa tk N S oo zz M0 M1 M2 M3 rs de pc pg sg ln po dd lt pl f1s s2s tms) → va_S A s.heap H locs → lv_has ls 6 [(2, .int (x1 / 32)), (0, .ref d0), (1, .int x1)] → W p l e rm_L_acts s m args below meth c H locs 0 0 Q (F0 m 129 ls []) := by
    intro H locs ls hq hP hD hS hl
    refine lv_aload_n hx hb dL_acts_129 rfl (lv_at hl 1 rfl) ?_
    refine lv_iload_n hx hb dL_acts_130 rfl (lv_at hl 0 rfl) ?_
    refine lv_iconst (v := 4) hx hb dL_acts_131 (by decide) ?_
    refine lv_irem hx hb dL_acts_132 (by decide) ?_
    refine lv_iconst (v := 1) hx hb dL_acts_133 (by decide) ?_
    refine lv_iload_n hx hb dL_acts_134 rfl (lv_at hl 0 rfl) ?_
    refine lv_iconst (v := 4) hx hb dL_acts_135 (by decide) ?_
    refine lv_idiv hx hb dL_acts_136 (by decide) ?_
    refine lv_sipush (v := 6000) hx hb dL_acts_137 (by decide) ?_
    refine lv_irem hx hb dL_acts_140 (by decide) ?_
    refine lv_iadd hx hb dL_acts_141 ?_
    have hPs := k_self hP
    have hDs := k_selfD hD
    refine k_behi (X := []) (Y := []) (va_runV (As := [.int ((x1 / 32) - (x1 / 32) / 4 * 4), .int (1 + (((x1 / 32) / 4) - ((x1 / 32) / 4) / 6000 * 6000))]) (rest := []) ⟨hx, hb, hml, hown, hts⟩ (c_X4_refill l D cI cC cQ H.size d0 n0 na s0 sa h1 h2 mm ma t0 p0 pa tk N S oo zz M0 M1 M2 M3 rs de pc pg sg ln po dd lt pl f1s s2s tms ((x1 / 32) - (x1 / 32) / 4 * 4) (1 + (((x1 / 32) / 4) - ((x1 / 32) / 4) / 6000 * 6000)) (hoo) (hzz)) (kcwV hts wd_ml_RL_22 wd_im_yX4_refill wd_sel_yX4_refill wd_ini_RX4 wd_code_yX4_refill rfl rfl rfl hd_X4_refill ⟨Nat.le_of_ble_eq_true rfl, Nat.le_of_ble_eq_true rfl⟩) ⟨in_blind, va_recv hK (pa_l (pa_r hPs)) (ci := 4) (q0 := 0) rfl rfl, k_pre hK (pa_l (pa_r hPs)) (da_l (da_r hDs)) hN⟩ rfl rfl hl.1 rfl (lv_room (Nat.le_of_ble_eq_true rfl)) dL_acts_142 ⟨Nat.le_of_ble_eq_true rfl, Nat.le_of_ble_eq_true rfl⟩) hPs hDs hS hA (fun r50 u51 H locs hw52 hP hD hS => ?_)
    obtain ⟨t53, v54, v55, t56, t57, t58, t59⟩ := u51
    have hP := k_unP hP
    have hD := k_unD hD
    have hP : va_P D vwCl (DW cI cC cQ d0 n0 na s0 sa h1 h2 mm ma t0 p0 pa tk t53 S v54 v55 t56 t57 t58 t59 rs de pc pg sg ln po dd lt pl f1s s2s tms) H := hP
    have hD : va_D A (DW cI cC cQ d0 n0 na s0 sa h1 h2 mm ma t0 p0 pa tk t53 S v54 v55 t56 t57 t58 t59 rs de pc pg sg ln po dd lt pl f1s s2s tms) := hD
    have hw52 : (r50, t53, v54, v55, t56, t57, t58, t59) = (sh_X4_refill N oo zz M0 M1 M2 M3 ((x1 / 32) - (x1 / 32) / 4 * 4) (1 + (((x1 / 32) / 4) - ((x1 / 32) / 4) / 6000 * 6000))) := hw52
    have hq := kb_to hq hw52
    exact hret _ _ _ _ (r50) (tk, t53, S, v54, v55, t56, t57, t58, t59, rs, de, pc, pg, sg, ln, po, dd, lt, pl, f1s, s2s, tms) dL_acts_145 rfl (hq.symm.trans hX) hP hD hS
  have K146 : ∀ (H : Heap) (locs : List Loc) (ls : Array Slot), Xq = (if ((x1 / 32) - (x1 / 32) / 4 * 4) = 0 then (kb (sh_X4_set N oo zz M0 M1 M2 M3 0 (1 + (((x1 / 32) / 4) - ((x1 / 32) / 4) / 5 * 5))) (fun z_r93 => (z_r93.1, tk, z_r93.2.1, S, z_r93.2.2.1, z_r93.2.2.2.1, z_r93.2.2.2.2.1, z_r93.2.2.2.2.2.1, z_r93.2.2.2.2.2.2.1, z_r93.2.2.2.2.2.2.2, rs, de, pc, pg, sg, ln, po, dd, lt, pl, f1s, s2s, tms))) else (if ((x1 / 32) - (x1 / 32) / 4 * 4) = 1 then (kb (sh_X4_set N oo zz M0 M1 M2 M3 1 (2 + (((x1 / 32) / 4) - ((x1 / 32) / 4) / 49 * 49))) (fun z_r83 => (z_r83.1, tk, z_r83.2.1, S, z_r83.2.2.1, z_r83.2.2.2.1, z_r83.2.2.2.2.1, z_r83.2.2.2.2.2.1, z_r83.2.2.2.2.2.2.1, z_r83.2.2.2.2.2.2.2, rs, de, pc, pg, sg, ln, po, dd, lt, pl, f1s, s2s, tms))) else (if ((x1 / 32) - (x1 / 32) / 4 * 4) = 2 then (kb (sh_X4_set N oo zz M0 M1 M2 M3 2 (((x1 / 32) / 4) - ((x1 / 32) / 4) / 2 * 2)) (fun z_r73 => (z_r73.1, tk, z_r73.2.1, S, z_r73.2.2.1, z_r73.2.2.2.1, z_r73.2.2.2.2.1, z_r73.2.2.2.2.2.1, z_r73.2.2.2.2.2.2.1, z_r73.2.2.2.2.2.2.2, rs, de, pc, pg, sg, ln, po, dd, lt, pl, f1s, s2s, tms))) else (kb (sh_X4_set N oo zz M0 M1 M2 M3 3 (1 + (((x1 / 32) / 4) - ((x1 / 32) / 4) / 500 * 500))) (fun z_r63 => (z_r63.1, tk, z_r63.2.1, S, z_r63.2.2.1, z_r63.2.2.2.1, z_r63.2.2.2.2.1, z_r63.2.2.2.2.2.1, z_r63.2.2.2.2.2.2.1, z_r63.2.2.2.2.2.2.2, rs, de, pc, pg, sg, ln, po, dd, lt, pl, f1s, s2s, tms)))))) → va_P D vwCl (DW cI cC cQ d0 n0 na s0 sa h1 h2 mm ma t0 p0 pa tk N S oo zz M0 M1 M2 M3 rs de pc pg sg ln po dd lt pl f1s s2s tms) H → va_D A (DW cI cC cQ d0 n0 na s0 sa h1 h2 mm ma t0 p0 pa tk N S oo zz M0 M1 M2 M3 rs de pc pg sg ln po dd lt pl f1s s2s tms) → va_S A s.heap H locs → lv_has ls 6 [(2, .int (x1 / 32)), (0, .ref d0), (1, .int x1)] → W p l e rm_L_acts s m args below meth c H locs 0 0 Q (F0 m 146 ls []) := by
    intro H locs ls hq hP hD hS hl
    refine lv_iload_n hx hb dL_acts_146 rfl (lv_at hl 0 rfl) ?_
    refine lv_iconst (v := 4) hx hb dL_acts_147 (by decide) ?_
    refine lv_irem hx hb dL_acts_148 (by decide) ?_
    refine lv_if_ne (tgt := 167) hx hb dL_acts_149 (by decide) (fun c60 => ?_) (fun c60 => ?_)
    · have hq := it_neg hq c60
      refine lv_iload_n hx hb dL_acts_167 rfl (lv_at hl 0 rfl) ?_
      refine lv_iconst (v := 4) hx hb dL_acts_168 (by decide) ?_
      refine lv_irem hx hb dL_acts_169 (by decide) ?_
      refine lv_iconst (v := 1) hx hb dL_acts_170 (by decide) ?_
      refine lv_icmp_ne (tgt := 190) hx hb dL_acts_171 (by decide) (fun c61 => ?_) (fun c61 => ?_)
      · have hq := it_neg hq c61
        refine lv_iload_n hx hb dL_acts_190 rfl (lv_at hl 0 rfl) ?_
        refine lv_iconst (v := 4) hx hb dL_acts_191 (by decide) ?_
        refine lv_irem hx hb dL_acts_192 (by decide) ?_
        refine lv_iconst (v := 2) hx hb dL_acts_193 (by decide) ?_
        refine lv_icmp_ne (tgt := 210) hx hb dL_acts_194 (by decide) (fun c62 => ?_) (fun c62 => ?_)
        · have hq := it_neg hq c62
          refine lv_aload_n hx hb dL_acts_210 rfl (lv_at hl 1 rfl) ?_
          refine lv_iconst (v := 3) hx hb dL_acts_211 (by decide) ?_
          refine lv_iconst (v := 1) hx hb dL_acts_212 (by decide) ?_
          refine lv_iload_n hx hb dL_acts_213 rfl (lv_at hl 0 rfl) ?_
          refine lv_iconst (v := 4) hx hb dL_acts_214 (by decide) ?_
          refine lv_idiv hx hb dL_acts_215 (by decide) ?_
          refine lv_sipush (v := 500) hx hb dL_acts_216 (by decide) ?_
          refine lv_irem hx hb dL_acts_219 (by decide) ?_
          refine lv_iadd hx hb dL_acts_220 ?_
          have hPs := k_self hP
          have hDs := k_selfD hD
          refine k_behi (X := []) (Y := []) (va_runV (As := [.int 3, .int (1 + (((x1 / 32) / 4) - ((x1 / 32) / 4) / 500 * 500))]) (rest := []) ⟨hx, hb, hml, hown, hts⟩ (c_X4_set l D cI cC cQ H.size d0 n0 na s0 sa h1 h2 mm ma t0 p0 pa tk N S oo zz M0 M1 M2 M3 rs de pc pg sg ln po dd lt pl f1s s2s tms 3 (1 + (((x1 / 32) / 4) - ((x1 / 32) / 4) / 500 * 500)) (hoo) (hzz)) (kcwV hts wd_ml_RL_25 wd_im_yX4_set wd_sel_yX4_set wd_ini_RX4 wd_code_yX4_set rfl rfl rfl hd_X4_set ⟨Nat.le_of_ble_eq_true rfl, Nat.le_of_ble_eq_true rfl⟩) ⟨in_blindZ, va_recv hK (pa_l (pa_r hPs)) (ci := 4) (q0 := 0) rfl rfl, k_preZ (p := p) hK hPs hDs hN hS hA hZ⟩ rfl rfl hl.1 rfl (lv_room (Nat.le_of_ble_eq_true rfl)) dL_acts_221 ⟨Nat.le_of_ble_eq_true rfl, Nat.le_of_ble_eq_true rfl⟩) hPs hDs hS hA (fun r63 u64 H locs hw65 hP hD hS => ?_)
          obtain ⟨t66, v67, v68, t69, t70, t71, t72⟩ := u64
          have hP := k_unP hP
          have hD := k_unD hD
          have hP : va_P D vwCl (DW cI cC cQ d0 n0 na s0 sa h1 h2 mm ma t0 p0 pa tk t66 S v67 v68 t69 t70 t71 t72 rs de pc pg sg ln po dd lt pl f1s s2s tms) H := hP
          have hD : va_D A (DW cI cC cQ d0 n0 na s0 sa h1 h2 mm ma t0 p0 pa tk t66 S v67 v68 t69 t70 t71 t72 rs de pc pg sg ln po dd lt pl f1s s2s tms) := hD
          have hw65 : (r63, t66, v67, v68, t69, t70, t71, t72) = (sh_X4_set N oo zz M0 M1 M2 M3 3 (1 + (((x1 / 32) / 4) - ((x1 / 32) / 4) / 500 * 500))) := hw65
          have hq := kb_to hq hw65
          exact hret _ _ _ _ (r63) (tk, t66, S, v67, v68, t69, t70, t71, t72, rs, de, pc, pg, sg, ln, po, dd, lt, pl, f1s, s2s, tms) dL_acts_224 rfl (hq.symm.trans hX) hP hD hS
        · have hq := it_pos hq c62
          refine lv_aload_n hx hb dL_acts_197 rfl (lv_at hl 1 rfl) ?_
          refine lv_iconst (v := 2) hx hb dL_acts_198 (by decide) ?_
          refine lv_iload_n hx hb dL_acts_199 rfl (lv_at hl 0 rfl) ?_
          refine lv_iconst (v := 4) hx hb dL_acts_200 (by decide) ?_
          refine lv_idiv hx hb dL_acts_201 (by decide) ?_
          refine lv_iconst (v := 2) hx hb dL_acts_202 (by decide) ?_
          refine lv_irem hx hb dL_acts_203 (by decide) ?_
          have hPs := k_self hP
          have hDs := k_selfD hD
          refine k_behi (X := []) (Y := []) (va_runV (As := [.int 2, .int (((x1 / 32) / 4) - ((x1 / 32) / 4) / 2 * 2)]) (rest := []) ⟨hx, hb, hml, hown, hts⟩ (c_X4_set l D cI cC cQ H.size d0 n0 na s0 sa h1 h2 mm ma t0 p0 pa tk N S oo zz M0 M1 M2 M3 rs de pc pg sg ln po dd lt pl f1s s2s tms 2 (((x1 / 32) / 4) - ((x1 / 32) / 4) / 2 * 2) (hoo) (hzz)) (kcwV hts wd_ml_RL_25 wd_im_yX4_set wd_sel_yX4_set wd_ini_RX4 wd_code_yX4_set rfl rfl rfl hd_X4_set ⟨Nat.le_of_ble_eq_true rfl, Nat.le_of_ble_eq_true rfl⟩) ⟨in_blindZ, va_recv hK (pa_l (pa_r hPs)) (ci := 4) (q0 := 0) rfl rfl, k_preZ (p := p) hK hPs hDs hN hS hA hZ⟩ rfl rfl hl.1 rfl (lv_room (Nat.le_of_ble_eq_true rfl)) dL_acts_204 ⟨Nat.le_of_ble_eq_true rfl, Nat.le_of_ble_eq_true rfl⟩) hPs hDs hS hA (fun r73 u74 H locs hw75 hP hD hS => ?_)
          obtain ⟨t76, v77, v78, t79, t80, t81, t82⟩ := u74
          have hP := k_unP hP
          have hD := k_unD hD
          have hP : va_P D vwCl (DW cI cC cQ d0 n0 na s0 sa h1 h2 mm ma t0 p0 pa tk t76 S v77 v78 t79 t80 t81 t82 rs de pc pg sg ln po dd lt pl f1s s2s tms) H := hP
          have hD : va_D A (DW cI cC cQ d0 n0 na s0 sa h1 h2 mm ma t0 p0 pa tk t76 S v77 v78 t79 t80 t81 t82 rs de pc pg sg ln po dd lt pl f1s s2s tms) := hD
          have hw75 : (r73, t76, v77, v78, t79, t80, t81, t82) = (sh_X4_set N oo zz M0 M1 M2 M3 2 (((x1 / 32) / 4) - ((x1 / 32) / 4) / 2 * 2)) := hw75
          have hq := kb_to hq hw75
          refine lv_goto (tgt := 224) hx hb dL_acts_207 (by decide) ?_
          exact hret _ _ _ _ (r73) (tk, t76, S, v77, v78, t79, t80, t81, t82, rs, de, pc, pg, sg, ln, po, dd, lt, pl, f1s, s2s, tms) dL_acts_224 rfl (hq.symm.trans hX) hP hD hS
      · have hq := it_pos hq c61
        refine lv_aload_n hx hb dL_acts_174 rfl (lv_at hl 1 rfl) ?_
        refine lv_iconst (v := 1) hx hb dL_acts_175 (by decide) ?_
        refine lv_iconst (v := 2) hx hb dL_acts_176 (by decide) ?_
        refine lv_iload_n hx hb dL_acts_177 rfl (lv_at hl 0 rfl) ?_
        refine lv_iconst (v := 4) hx hb dL_acts_178 (by decide) ?_
        refine lv_idiv hx hb dL_acts_179 (by decide) ?_
        refine lv_bipush (v := 49) hx hb dL_acts_180 (by decide) ?_
        refine lv_irem hx hb dL_acts_182 (by decide) ?_
        refine lv_iadd hx hb dL_acts_183 ?_
        have hPs := k_self hP
        have hDs := k_selfD hD
        refine k_behi (X := []) (Y := []) (va_runV (As := [.int 1, .int (2 + (((x1 / 32) / 4) - ((x1 / 32) / 4) / 49 * 49))]) (rest := []) ⟨hx, hb, hml, hown, hts⟩ (c_X4_set l D cI cC cQ H.size d0 n0 na s0 sa h1 h2 mm ma t0 p0 pa tk N S oo zz M0 M1 M2 M3 rs de pc pg sg ln po dd lt pl f1s s2s tms 1 (2 + (((x1 / 32) / 4) - ((x1 / 32) / 4) / 49 * 49)) (hoo) (hzz)) (kcwV hts wd_ml_RL_25 wd_im_yX4_set wd_sel_yX4_set wd_ini_RX4 wd_code_yX4_set rfl rfl rfl hd_X4_set ⟨Nat.le_of_ble_eq_true rfl, Nat.le_of_ble_eq_true rfl⟩) ⟨in_blindZ, va_recv hK (pa_l (pa_r hPs)) (ci := 4) (q0 := 0) rfl rfl, k_preZ (p := p) hK hPs hDs hN hS hA hZ⟩ rfl rfl hl.1 rfl (lv_room (Nat.le_of_ble_eq_true rfl)) dL_acts_184 ⟨Nat.le_of_ble_eq_true rfl, Nat.le_of_ble_eq_true rfl⟩) hPs hDs hS hA (fun r83 u84 H locs hw85 hP hD hS => ?_)
        obtain ⟨t86, v87, v88, t89, t90, t91, t92⟩ := u84
        have hP := k_unP hP
        have hD := k_unD hD
        have hP : va_P D vwCl (DW cI cC cQ d0 n0 na s0 sa h1 h2 mm ma t0 p0 pa tk t86 S v87 v88 t89 t90 t91 t92 rs de pc pg sg ln po dd lt pl f1s s2s tms) H := hP
        have hD : va_D A (DW cI cC cQ d0 n0 na s0 sa h1 h2 mm ma t0 p0 pa tk t86 S v87 v88 t89 t90 t91 t92 rs de pc pg sg ln po dd lt pl f1s s2s tms) := hD
        have hw85 : (r83, t86, v87, v88, t89, t90, t91, t92) = (sh_X4_set N oo zz M0 M1 M2 M3 1 (2 + (((x1 / 32) / 4) - ((x1 / 32) / 4) / 49 * 49))) := hw85
        have hq := kb_to hq hw85
        refine lv_goto (tgt := 224) hx hb dL_acts_187 (by decide) ?_
        exact hret _ _ _ _ (r83) (tk, t86, S, v87, v88, t89, t90, t91, t92, rs, de, pc, pg, sg, ln, po, dd, lt, pl, f1s, s2s, tms) dL_acts_224 rfl (hq.symm.trans hX) hP hD hS
    · have hq := it_pos hq c60
      refine lv_aload_n hx hb dL_acts_152 rfl (lv_at hl 1 rfl) ?_
      refine lv_iconst (v := 0) hx hb dL_acts_153 (by decide) ?_
      refine lv_iconst (v := 1) hx hb dL_acts_154 (by decide) ?_
      refine lv_iload_n hx hb dL_acts_155 rfl (lv_at hl 0 rfl) ?_
      refine lv_iconst (v := 4) hx hb dL_acts_156 (by decide) ?_
      refine lv_idiv hx hb dL_acts_157 (by decide) ?_
      refine lv_iconst (v := 5) hx hb dL_acts_158 (by decide) ?_
      refine lv_irem hx hb dL_acts_159 (by decide) ?_
      refine lv_iadd hx hb dL_acts_160 ?_
      have hPs := k_self hP
      have hDs := k_selfD hD
      refine k_behi (X := []) (Y := []) (va_runV (As := [.int 0, .int (1 + (((x1 / 32) / 4) - ((x1 / 32) / 4) / 5 * 5))]) (rest := []) ⟨hx, hb, hml, hown, hts⟩ (c_X4_set l D cI cC cQ H.size d0 n0 na s0 sa h1 h2 mm ma t0 p0 pa tk N S oo zz M0 M1 M2 M3 rs de pc pg sg ln po dd lt pl f1s s2s tms 0 (1 + (((x1 / 32) / 4) - ((x1 / 32) / 4) / 5 * 5)) (hoo) (hzz)) (kcwV hts wd_ml_RL_25 wd_im_yX4_set wd_sel_yX4_set wd_ini_RX4 wd_code_yX4_set rfl rfl rfl hd_X4_set ⟨Nat.le_of_ble_eq_true rfl, Nat.le_of_ble_eq_true rfl⟩) ⟨in_blindZ, va_recv hK (pa_l (pa_r hPs)) (ci := 4) (q0 := 0) rfl rfl, k_preZ (p := p) hK hPs hDs hN hS hA hZ⟩ rfl rfl hl.1 rfl (lv_room (Nat.le_of_ble_eq_true rfl)) dL_acts_161 ⟨Nat.le_of_ble_eq_true rfl, Nat.le_of_ble_eq_true rfl⟩) hPs hDs hS hA (fun r93 u94 H locs hw95 hP hD hS => ?_)
      obtain ⟨t96, v97, v98, t99, t100, t101, t102⟩ := u94
      have hP := k_unP hP
      have hD := k_unD hD
      have hP : va_P D vwCl (DW cI cC cQ d0 n0 na s0 sa h1 h2 mm ma t0 p0 pa tk t96 S v97 v98 t99 t100 t101 t102 rs de pc pg sg ln po dd lt pl f1s s2s tms) H := hP
      have hD : va_D A (DW cI cC cQ d0 n0 na s0 sa h1 h2 mm ma t0 p0 pa tk t96 S v97 v98 t99 t100 t101 t102 rs de pc pg sg ln po dd lt pl f1s s2s tms) := hD
      have hw95 : (r93, t96, v97, v98, t99, t100, t101, t102) = (sh_X4_set N oo zz M0 M1 M2 M3 0 (1 + (((x1 / 32) / 4) - ((x1 / 32) / 4) / 5 * 5))) := hw95
      have hq := kb_to hq hw95
      refine lv_goto (tgt := 224) hx hb dL_acts_164 (by decide) ?_
      exact hret _ _ _ _ (r93) (tk, t96, S, v97, v98, t99, t100, t101, t102, rs, de, pc, pg, sg, ln, po, dd, lt, pl, f1s, s2s, tms) dL_acts_224 rfl (hq.symm.trans hX) hP hD hS
  have K225 : ∀ (H : Heap) (locs : List Loc) (ls : Array Slot), Xq = (kb (sh_X4_undo N oo zz M0 M1 M2 M3) (fun z_r103 => (z_r103.1, tk, z_r103.2.1, S, oo, z_r103.2.2, M0, M1, M2, M3, rs, de, pc, pg, sg, ln, po, dd, lt, pl, f1s, s2s, tms))) → va_P D vwCl (DW cI cC cQ d0 n0 na s0 sa h1 h2 mm ma t0 p0 pa tk N S oo zz M0 M1 M2 M3 rs de pc pg sg ln po dd lt pl f1s s2s tms) H → va_D A (DW cI cC cQ d0 n0 na s0 sa h1 h2 mm ma t0 p0 pa tk N S oo zz M0 M1 M2 M3 rs de pc pg sg ln po dd lt pl f1s s2s tms) → va_S A s.heap H locs → lv_has ls 6 [(2, .int (x1 / 32)), (0, .ref d0), (1, .int x1)] → W p l e rm_L_acts s m args below meth c H locs 0 0 Q (F0 m 225 ls []) := by
    intro H locs ls hq hP hD hS hl
    refine lv_aload_n hx hb dL_acts_225 rfl (lv_at hl 1 rfl) ?_
    have hPs := k_self hP
    have hDs := k_selfD hD
    refine k_behi (X := []) (Y := []) (va_runV (As := []) (rest := []) ⟨hx, hb, hml, hown, hts⟩ (c_X4_undo l D cI cC cQ H.size d0 n0 na s0 sa h1 h2 mm ma t0 p0 pa tk N S oo zz M0 M1 M2 M3 rs de pc pg sg ln po dd lt pl f1s s2s tms (hoo) (hzz)) (kcwV hts wd_ml_RL_28 wd_im_yX4_undo wd_sel_yX4_undo wd_ini_RX4 wd_code_yX4_undo rfl rfl rfl hd_X4_undo ⟨Nat.le_of_ble_eq_true rfl, Nat.le_of_ble_eq_true rfl⟩) ⟨in_blind, va_recv hK (pa_l (pa_r hPs)) (ci := 4) (q0 := 0) rfl rfl, k_pre hK (pa_l (pa_r hPs)) (da_l (da_r hDs)) hN⟩ rfl rfl hl.1 rfl (lv_room (Nat.le_of_ble_eq_true rfl)) dL_acts_226 ⟨Nat.le_of_ble_eq_true rfl, Nat.le_of_ble_eq_true rfl⟩) hPs hDs hS hA (fun r103 u104 H locs hw105 hP hD hS => ?_)
    obtain ⟨t106, v107⟩ := u104
    have hP := k_unP hP
    have hD := k_unD hD
    have hP : va_P D vwCl (DW cI cC cQ d0 n0 na s0 sa h1 h2 mm ma t0 p0 pa tk t106 S oo v107 M0 M1 M2 M3 rs de pc pg sg ln po dd lt pl f1s s2s tms) H := hP
    have hD : va_D A (DW cI cC cQ d0 n0 na s0 sa h1 h2 mm ma t0 p0 pa tk t106 S oo v107 M0 M1 M2 M3 rs de pc pg sg ln po dd lt pl f1s s2s tms) := hD
    have hw105 : (r103, t106, v107) = (sh_X4_undo N oo zz M0 M1 M2 M3) := hw105
    have hq := kb_to hq hw105
    exact hret _ _ _ _ (r103) (tk, t106, S, oo, v107, M0, M1, M2, M3, rs, de, pc, pg, sg, ln, po, dd, lt, pl, f1s, s2s, tms) dL_acts_229 rfl (hq.symm.trans hX) hP hD hS
  have K240 : ∀ (H : Heap) (locs : List Loc) (ls : Array Slot), Xq = (kb (sh_X4_clear ln) (fun z_r123 => (lp_L_acts_248 tk N S oo zz M0 M1 M2 M3 rs de pc pg po dd lt pl f1s s2s tms x1 (((1 + ((x1 / 32) - (x1 / 32) / 4 * 4)).toInt - (0 : Int32).toInt).toNat + 1) z_r123.1 0 sg z_r123.2))) → va_P D vwCl (DW cI cC cQ d0 n0 na s0 sa h1 h2 mm ma t0 p0 pa tk N S oo zz M0 M1 M2 M3 rs de pc pg sg ln po dd lt pl f1s s2s tms) H → va_D A (DW cI cC cQ d0 n0 na s0 sa h1 h2 mm ma t0 p0 pa tk N S oo zz M0 M1 M2 M3 rs de pc pg sg ln po dd lt pl f1s s2s tms) → va_S A s.heap H locs → lv_has ls 6 [(2, .int (x1 / 32)), (0, .ref d0), (1, .int x1)] → W p l e rm_L_acts s m args below meth c H locs 0 0 Q (F0 m 240 ls []) := by
    intro H locs ls hq hP hD hS hl
    refine lv_aload_n hx hb dL_acts_240 rfl (lv_at hl 1 rfl) ?_
    have hPs := k_self hP
    have hDs := k_selfD hD
    refine k_behi (X := []) (Y := []) (va_runV (As := []) (rest := []) ⟨hx, hb, hml, hown, hts⟩ (c_X4_clear l D cI cC cQ H.size d0 n0 na s0 sa h1 h2 mm ma t0 p0 pa tk N S oo zz M0 M1 M2 M3 rs de pc pg sg ln po dd lt pl f1s s2s tms ) (kcwV hts wd_ml_RL_38 wd_im_yX4_clear wd_sel_yX4_clear wd_ini_RX4 wd_code_yX4_clear rfl rfl rfl hd_X4_clear ⟨Nat.le_of_ble_eq_true rfl, Nat.le_of_ble_eq_true rfl⟩) ⟨in_blind, va_recv hK (pa_l (pa_r hPs)) (ci := 4) (q0 := 0) rfl rfl, k_pre hK (pa_l (pa_r hPs)) (da_l (da_r hDs)) hN⟩ rfl rfl hl.1 rfl (lv_room (Nat.le_of_ble_eq_true rfl)) dL_acts_241 ⟨Nat.le_of_ble_eq_true rfl, Nat.le_of_ble_eq_true rfl⟩) hPs hDs hS hA (fun r123 u124 H locs hw125 hP hD hS => ?_)
    obtain ⟨v126, rfl⟩ : ∃ z, z = u124 := ⟨_, rfl⟩
    have hP := k_unP hP
    have hD := k_unD hD
    have hP : va_P D vwCl (DW cI cC cQ d0 n0 na s0 sa h1 h2 mm ma t0 p0 pa tk N S oo zz M0 M1 M2 M3 rs de pc pg sg v126 po dd lt pl f1s s2s tms) H := hP
    have hD : va_D A (DW cI cC cQ d0 n0 na s0 sa h1 h2 mm ma t0 p0 pa tk N S oo zz M0 M1 M2 M3 rs de pc pg sg v126 po dd lt pl f1s s2s tms) := hD
    have hw125 : (r123, v126) = (sh_X4_clear ln) := hw125
    have hq := kb_to hq hw125
    refine lv_istore_n (lv' := [(3, .int r123), (2, .int (x1 / 32)), (0, .ref d0), (1, .int x1)]) hx hb dL_acts_244 rfl hl (by decide) rfl (fun ls hl => ?_)
    refine lv_iconst (v := 0) hx hb dL_acts_245 (by decide) ?_
    refine lv_istore (lv' := [(4, .int 0), (3, .int r123), (2, .int (x1 / 32)), (0, .ref d0), (1, .int x1)]) hx hb dL_acts_246 hl (by decide) rfl (fun ls hl => ?_)
    have L248 : ∀ (fu : Nat) (n3 : Int32) (k4 : Int32) (l_sg : Nat → Int32) (l_ln : Int32) (H : Heap) (locs : List Loc) (ls : Array Slot), ((1 + ((x1 / 32) - (x1 / 32) / 4 * 4)).toInt - (k4 : Int32).toInt).toNat < fu → (padr l_sg l_sg l_ln) → Xq = lp_L_acts_248 tk N S oo zz M0 M1 M2 M3 rs de pc pg po dd lt pl f1s s2s tms x1 fu n3 k4 l_sg l_ln → va_P D vwCl (DW cI cC cQ d0 n0 na s0 sa h1 h2 mm ma t0 p0 pa tk N S oo zz M0 M1 M2 M3 rs de pc pg l_sg l_ln po dd lt pl f1s s2s tms) H → va_D A (DW cI cC cQ d0 n0 na s0 sa h1 h2 mm ma t0 p0 pa tk N S oo zz M0 M1 M2 M3 rs de pc pg l_sg l_ln po dd lt pl f1s s2s tms) → va_S A s.heap H locs → lv_has ls 6 [(4, .int k4), (3, .int n3), (2, .int (x1 / 32)), (0, .ref d0), (1, .int x1)] → W p l e rm_L_acts s m args below meth c H locs 0 0 Q (F0 m 248 ls []) := by
      intro fu
      induction fu with
      | zero => intro n3 k4 l_sg l_ln H locs ls hmu; exact absurd hmu (Nat.not_lt_zero _)
      | succ fu ih =>
        intro n3 k4 l_sg l_ln H locs ls hmu hpad1 hq hP hD hS hl
        have hq : Xq = (if (1 + ((x1 / 32) - (x1 / 32) / 4 * 4)) ≤ k4 then (if n3 < 1 then ((-9 : Int32), tk, N, S, oo, zz, M0, M1, M2, M3, rs, de, pc, pg, l_sg, l_ln, po, dd, lt, pl, f1s, s2s, tms) else (kb (sh_X4_fault l_sg l_ln lt pl f1s s2s tms) (fun z_r129 => (if z_r129.1 = (-4) then (kb (sh_X4_run N oo zz M0 M1 M2 M3 rs de pc pg l_sg l_ln z_r129.2.2.2.1 z_r129.2.2.2.2.1 z_r129.2.2.2.2.2.1 z_r129.2.2.2.2.2.2.1 z_r129.2.2.2.2.2.2.2) (fun z_r140 => (z_r140.1, tk, z_r140.2.1, S, z_r140.2.2.1, z_r140.2.2.2.1, z_r140.2.2.2.2.1, z_r140.2.2.2.2.2.1, z_r140.2.2.2.2.2.2.1, z_r140.2.2.2.2.2.2.2.1, z_r140.2.2.2.2.2.2.2.2.1, z_r140.2.2.2.2.2.2.2.2.2.1, z_r140.2.2.2.2.2.2.2.2.2.2.1, z_r140.2.2.2.2.2.2.2.2.2.2.2.1, l_sg, z_r140.2.2.2.2.2.2.2.2.2.2.2.2.1, z_r140.2.2.2.2.2.2.2.2.2.2.2.2.2.1, z_r140.2.2.2.2.2.2.2.2.2.2.2.2.2.2.1, z_r140.2.2.2.2.2.2.2.2.2.2.2.2.2.2.2.1, z_r140.2.2.2.2.2.2.2.2.2.2.2.2.2.2.2.2.1, z_r140.2.2.2.2.2.2.2.2.2.2.2.2.2.2.2.2.2.1, z_r140.2.2.2.2.2.2.2.2.2.2.2.2.2.2.2.2.2.2.1, z_r140.2.2.2.2.2.2.2.2.2.2.2.2.2.2.2.2.2.2.2))) else ((-9 : Int32), tk, N, S, oo, zz, M0, M1, M2, M3, rs, de, pc, pg, l_sg, l_ln, z_r129.2.1, z_r129.2.2.1, z_r129.2.2.2.1, z_r129.2.2.2.2.1, z_r129.2.2.2.2.2.1, z_r129.2.2.2.2.2.2.1, z_r129.2.2.2.2.2.2.2))))) else (if k4 ≤ 0 then (if 5 ≤ ((((x1 / 32) / 4) >>> ((5 * k4) &&& 31)) - (((x1 / 32) / 4) >>> ((5 * k4) &&& 31)) / 8 * 8) then (kb (α := (Int32)) (if ((((x1 / 32) / 4) >>> ((5 * k4) &&& 31)) - (((x1 / 32) / 4) >>> ((5 * k4) &&& 31)) / 8 * 8) = 5 then 115 else 109) (fun z_v166 => (kb (sh_X4_append l_sg l_ln z_v166) (fun z_r167 => (kb (sh_X4_append z_r167.2.1 z_r167.2.2 (48 + (((((x1 / 32) / 4) >>> ((5 * k4) &&& 31)) / 8) - ((((x1 / 32) / 4) >>> ((5 * k4) &&& 31)) / 8) / 4 * 4))) (fun z_r172 => (if ((((x1 / 32) / 4) >>> ((5 * k4) &&& 31)) - (((x1 / 32) / 4) >>> ((5 * k4) &&& 31)) / 8 * 8) ≤ 5 then (if ((((x1 / 32) / 4) >>> ((5 * k4) &&& 31)) - (((x1 / 32) / 4) >>> ((5 * k4) &&& 31)) / 8 * 8) ≤ 5 then (lp_L_acts_248 tk N S oo zz M0 M1 M2 M3 rs de pc pg po dd lt pl f1s s2s tms x1 fu z_r172.1 (k4 + 1) z_r172.2.1 z_r172.2.2) else (kb (sh_X4_append z_r172.2.1 z_r172.2.2 (48 + (((((x1 / 32) / 4) >>> ((5 * k4) &&& 31)) / 32) - ((((x1 / 32) / 4) >>> ((5 * k4) &&& 31)) / 32) / 2 * 2))) (fun z_r179 => (lp_L_acts_248 tk N S oo zz M0 M1 M2 M3 rs de pc pg po dd lt pl f1s s2s tms x1 fu z_r179.1 (k4 + 1) z_r179.2.1 z_r179.2.2)))) else (kb (sh_X4_append z_r172.2.1 z_r172.2.2 62) (fun z_r184 => (if ((((x1 / 32) / 4) >>> ((5 * k4) &&& 31)) - (((x1 / 32) / 4) >>> ((5 * k4) &&& 31)) / 8 * 8) ≤ 5 then (lp_L_acts_248 tk N S oo zz M0 M1 M2 M3 rs de pc pg po dd lt pl f1s s2s tms x1 fu z_r184.1 (k4 + 1) z_r184.2.1 z_r184.2.2) else (kb (sh_X4_append z_r184.2.1 z_r184.2.2 (48 + (((((x1 / 32) / 4) >>> ((5 * k4) &&& 31)) / 32) - ((((x1 / 32) / 4) >>> ((5 * k4) &&& 31)) / 32) / 2 * 2))) (fun z_r190 => (lp_L_acts_248 tk N S oo zz M0 M1 M2 M3 rs de pc pg po dd lt pl f1s s2s tms x1 fu z_r190.1 (k4 + 1) z_r190.2.1 z_r190.2.2))))))))))))) else (kb (sh_X4_append l_sg l_ln 112) (fun z_r195 => (kb (sh_X4_append z_r195.2.1 z_r195.2.2 (48 + (((((x1 / 32) / 4) >>> ((5 * k4) &&& 31)) / 8) - ((((x1 / 32) / 4) >>> ((5 * k4) &&& 31)) / 8) / 2 * 2))) (fun z_r200 => (kb (sh_X4_append z_r200.2.1 z_r200.2.2 58) (fun z_r205 => (kb (sh_X4_append z_r205.2.1 z_r205.2.2 (49 + (((((x1 / 32) / 4) >>> ((5 * k4) &&& 31)) / 16) - ((((x1 / 32) / 4) >>> ((5 * k4) &&& 31)) / 16) / 9 * 9))) (fun z_r210 => (if 3 ≤ ((((x1 / 32) / 4) >>> ((5 * k4) &&& 31)) - (((x1 / 32) / 4) >>> ((5 * k4) &&& 31)) / 8 * 8) then (if 1 ≤ ((((x1 / 32) / 4) >>> ((5 * k4) &&& 31)) - (((x1 / 32) / 4) >>> ((5 * k4) &&& 31)) / 8 * 8) then (if (((((x1 / 32) / 4) >>> ((5 * k4) &&& 31)) / 16) - ((((x1 / 32) / 4) >>> ((5 * k4) &&& 31)) / 16) / 3 * 3) = 0 then (kb (sh_X4_append z_r210.2.1 z_r210.2.2 120) (fun z_r224 => (if (((((x1 / 32) / 4) >>> ((5 * k4) &&& 31)) / 16) - ((((x1 / 32) / 4) >>> ((5 * k4) &&& 31)) / 16) / 3 * 3) = 0 then (kb (sh_X4_append z_r224.2.1 z_r224.2.2 (50 + (((((x1 / 32) / 4) >>> ((5 * k4) &&& 31)) / 128) - ((((x1 / 32) / 4) >>> ((5 * k4) &&& 31)) / 128) / 8 * 8))) (fun z_r230 => (lp_L_acts_248 tk N S oo zz M0 M1 M2 M3 rs de pc pg po dd lt pl f1s s2s tms x1 fu z_r230.1 (k4 + 1) z_r230.2.1 z_r230.2.2))) else (lp_L_acts_248 tk N S oo zz M0 M1 M2 M3 rs de pc pg po dd lt pl f1s s2s tms x1 fu z_r224.1 (k4 + 1) z_r224.2.1 z_r224.2.2)))) else (if (((((x1 / 32) / 4) >>> ((5 * k4) &&& 31)) / 16) - ((((x1 / 32) / 4) >>> ((5 * k4) &&& 31)) / 16) / 3 * 3) = 0 then (kb (sh_X4_append z_r210.2.1 z_r210.2.2 (50 + (((((x1 / 32) / 4) >>> ((5 * k4) &&& 31)) / 128) - ((((x1 / 32) / 4) >>> ((5 * k4) &&& 31)) / 128) / 8 * 8))) (fun z_r219 => (lp_L_acts_248 tk N S oo zz M0 M1 M2 M3 rs de pc pg po dd lt pl f1s s2s tms x1 fu z_r219.1 (k4 + 1) z_r219.2.1 z_r219.2.2))) else (lp_L_acts_248 tk N S oo zz M0 M1 M2 M3 rs de pc pg po dd lt pl f1s s2s tms x1 fu z_r210.1 (k4 + 1) z_r210.2.1 z_r210.2.2))) else (kb (sh_X4_append z_r210.2.1 z_r210.2.2 (48 + (((((x1 / 32) / 4) >>> ((5 * k4) &&& 31)) / 64) - ((((x1 / 32) / 4) >>> ((5 * k4) &&& 31)) / 64) / 10 * 10))) (fun z_r235 => (if (((((x1 / 32) / 4) >>> ((5 * k4) &&& 31)) / 16) - ((((x1 / 32) / 4) >>> ((5 * k4) &&& 31)) / 16) / 3 * 3) = 0 then (kb (sh_X4_append z_r235.2.1 z_r235.2.2 120) (fun z_r247 => (if (((((x1 / 32) / 4) >>> ((5 * k4) &&& 31)) / 16) - ((((x1 / 32) / 4) >>> ((5 * k4) &&& 31)) / 16) / 3 * 3) = 0 then (kb (sh_X4_append z_r247.2.1 z_r247.2.2 (50 + (((((x1 / 32) / 4) >>> ((5 * k4) &&& 31)) / 128) - ((((x1 / 32) / 4) >>> ((5 * k4) &&& 31)) / 128) / 8 * 8))) (fun z_r253 => (lp_L_acts_248 tk N S oo zz M0 M1 M2 M3 rs de pc pg po dd lt pl f1s s2s tms x1 fu z_r253.1 (k4 + 1) z_r253.2.1 z_r253.2.2))) else (lp_L_acts_248 tk N S oo zz M0 M1 M2 M3 rs de pc pg po dd lt pl f1s s2s tms x1 fu z_r247.1 (k4 + 1) z_r247.2.1 z_r247.2.2)))) else (if (((((x1 / 32) / 4) >>> ((5 * k4) &&& 31)) / 16) - ((((x1 / 32) / 4) >>> ((5 * k4) &&& 31)) / 16) / 3 * 3) = 0 then (kb (sh_X4_append z_r235.2.1 z_r235.2.2 (50 + (((((x1 / 32) / 4) >>> ((5 * k4) &&& 31)) / 128) - ((((x1 / 32) / 4) >>> ((5 * k4) &&& 31)) / 128) / 8 * 8))) (fun z_r242 => (lp_L_acts_248 tk N S oo zz M0 M1 M2 M3 rs de pc pg po dd lt pl f1s s2s tms x1 fu z_r242.1 (k4 + 1) z_r242.2.1 z_r242.2.2))) else (lp_L_acts_248 tk N S oo zz M0 M1 M2 M3 rs de pc pg po dd lt pl f1s s2s tms x1 fu z_r235.1 (k4 + 1) z_r235.2.1 z_r235.2.2)))))) else (kb (sh_X4_append z_r210.2.1 z_r210.2.2 (48 + (((((x1 / 32) / 4) >>> ((5 * k4) &&& 31)) / 32) - ((((x1 / 32) / 4) >>> ((5 * k4) &&& 31)) / 32) / 10 * 10))) (fun z_r258 => (if 1 ≤ ((((x1 / 32) / 4) >>> ((5 * k4) &&& 31)) - (((x1 / 32) / 4) >>> ((5 * k4) &&& 31)) / 8 * 8) then (if (((((x1 / 32) / 4) >>> ((5 * k4) &&& 31)) / 16) - ((((x1 / 32) / 4) >>> ((5 * k4) &&& 31)) / 16) / 3 * 3) = 0 then (kb (sh_X4_append z_r258.2.1 z_r258.2.2 120) (fun z_r271 => (if (((((x1 / 32) / 4) >>> ((5 * k4) &&& 31)) / 16) - ((((x1 / 32) / 4) >>> ((5 * k4) &&& 31)) / 16) / 3 * 3) = 0 then (kb (sh_X4_append z_r271.2.1 z_r271.2.2 (50 + (((((x1 / 32) / 4) >>> ((5 * k4) &&& 31)) / 128) - ((((x1 / 32) / 4) >>> ((5 * k4) &&& 31)) / 128) / 8 * 8))) (fun z_r277 => (lp_L_acts_248 tk N S oo zz M0 M1 M2 M3 rs de pc pg po dd lt pl f1s s2s tms x1 fu z_r277.1 (k4 + 1) z_r277.2.1 z_r277.2.2))) else (lp_L_acts_248 tk N S oo zz M0 M1 M2 M3 rs de pc pg po dd lt pl f1s s2s tms x1 fu z_r271.1 (k4 + 1) z_r271.2.1 z_r271.2.2)))) else (if (((((x1 / 32) / 4) >>> ((5 * k4) &&& 31)) / 16) - ((((x1 / 32) / 4) >>> ((5 * k4) &&& 31)) / 16) / 3 * 3) = 0 then (kb (sh_X4_append z_r258.2.1 z_r258.2.2 (50 + (((((x1 / 32) / 4) >>> ((5 * k4) &&& 31)) / 128) - ((((x1 / 32) / 4) >>> ((5 * k4) &&& 31)) / 128) / 8 * 8))) (fun z_r266 => (lp_L_acts_248 tk N S oo zz M0 M1 M2 M3 rs de pc pg po dd lt pl f1s s2s tms x1 fu z_r266.1 (k4 + 1) z_r266.2.1 z_r266.2.2))) else (lp_L_acts_248 tk N S oo zz M0 M1 M2 M3 rs de pc pg po dd lt pl f1s s2s tms x1 fu z_r258.1 (k4 + 1) z_r258.2.1 z_r258.2.2))) else (kb (sh_X4_append z_r258.2.1 z_r258.2.2 (48 + (((((x1 / 32) / 4) >>> ((5 * k4) &&& 31)) / 64) - ((((x1 / 32) / 4) >>> ((5 * k4) &&& 31)) / 64) / 10 * 10))) (fun z_r282 => (if (((((x1 / 32) / 4) >>> ((5 * k4) &&& 31)) / 16) - ((((x1 / 32) / 4) >>> ((5 * k4) &&& 31)) / 16) / 3 * 3) = 0 then (kb (sh_X4_append z_r282.2.1 z_r282.2.2 120) (fun z_r294 => (if (((((x1 / 32) / 4) >>> ((5 * k4) &&& 31)) / 16) - ((((x1 / 32) / 4) >>> ((5 * k4) &&& 31)) / 16) / 3 * 3) = 0 then (kb (sh_X4_append z_r294.2.1 z_r294.2.2 (50 + (((((x1 / 32) / 4) >>> ((5 * k4) &&& 31)) / 128) - ((((x1 / 32) / 4) >>> ((5 * k4) &&& 31)) / 128) / 8 * 8))) (fun z_r300 => (lp_L_acts_248 tk N S oo zz M0 M1 M2 M3 rs de pc pg po dd lt pl f1s s2s tms x1 fu z_r300.1 (k4 + 1) z_r300.2.1 z_r300.2.2))) else (lp_L_acts_248 tk N S oo zz M0 M1 M2 M3 rs de pc pg po dd lt pl f1s s2s tms x1 fu z_r294.1 (k4 + 1) z_r294.2.1 z_r294.2.2)))) else (if (((((x1 / 32) / 4) >>> ((5 * k4) &&& 31)) / 16) - ((((x1 / 32) / 4) >>> ((5 * k4) &&& 31)) / 16) / 3 * 3) = 0 then (kb (sh_X4_append z_r282.2.1 z_r282.2.2 (50 + (((((x1 / 32) / 4) >>> ((5 * k4) &&& 31)) / 128) - ((((x1 / 32) / 4) >>> ((5 * k4) &&& 31)) / 128) / 8 * 8))) (fun z_r289 => (lp_L_acts_248 tk N S oo zz M0 M1 M2 M3 rs de pc pg po dd lt pl f1s s2s tms x1 fu z_r289.1 (k4 + 1) z_r289.2.1 z_r289.2.2))) else (lp_L_acts_248 tk N S oo zz M0 M1 M2 M3 rs de pc pg po dd lt pl f1s s2s tms x1 fu z_r282.1 (k4 + 1) z_r282.2.1 z_r282.2.2)))))))))))))))))) else (kb (sh_X4_append l_sg l_ln 59) (fun z_r305 => (if 5 ≤ ((((x1 / 32) / 4) >>> ((5 * k4) &&& 31)) - (((x1 / 32) / 4) >>> ((5 * k4) &&& 31)) / 8 * 8) then (kb (α := (Int32)) (if ((((x1 / 32) / 4) >>> ((5 * k4) &&& 31)) - (((x1 / 32) / 4) >>> ((5 * k4) &&& 31)) / 8 * 8) = 5 then 115 else 109) (fun z_v313 => (kb (sh_X4_append z_r305.2.1 z_r305.2.2 z_v313) (fun z_r314 => (kb (sh_X4_append z_r314.2.1 z_r314.2.2 (48 + (((((x1 / 32) / 4) >>> ((5 * k4) &&& 31)) / 8) - ((((x1 / 32) / 4) >>> ((5 * k4) &&& 31)) / 8) / 4 * 4))) (fun z_r319 => (if ((((x1 / 32) / 4) >>> ((5 * k4) &&& 31)) - (((x1 / 32) / 4) >>> ((5 * k4) &&& 31)) / 8 * 8) ≤ 5 then (if ((((x1 / 32) / 4) >>> ((5 * k4) &&& 31)) - (((x1 / 32) / 4) >>> ((5 * k4) &&& 31)) / 8 * 8) ≤ 5 then (lp_L_acts_248 tk N S oo zz M0 M1 M2 M3 rs de pc pg po dd lt pl f1s s2s tms x1 fu z_r319.1 (k4 + 1) z_r319.2.1 z_r319.2.2) else (kb (sh_X4_append z_r319.2.1 z_r319.2.2 (48 + (((((x1 / 32) / 4) >>> ((5 * k4) &&& 31)) / 32) - ((((x1 / 32) / 4) >>> ((5 * k4) &&& 31)) / 32) / 2 * 2))) (fun z_r326 => (lp_L_acts_248 tk N S oo zz M0 M1 M2 M3 rs de pc pg po dd lt pl f1s s2s tms x1 fu z_r326.1 (k4 + 1) z_r326.2.1 z_r326.2.2)))) else (kb (sh_X4_append z_r319.2.1 z_r319.2.2 62) (fun z_r331 => (if ((((x1 / 32) / 4) >>> ((5 * k4) &&& 31)) - (((x1 / 32) / 4) >>> ((5 * k4) &&& 31)) / 8 * 8) ≤ 5 then (lp_L_acts_248 tk N S oo zz M0 M1 M2 M3 rs de pc pg po dd lt pl f1s s2s tms x1 fu z_r331.1 (k4 + 1) z_r331.2.1 z_r331.2.2) else (kb (sh_X4_append z_r331.2.1 z_r331.2.2 (48 + (((((x1 / 32) / 4) >>> ((5 * k4) &&& 31)) / 32) - ((((x1 / 32) / 4) >>> ((5 * k4) &&& 31)) / 32) / 2 * 2))) (fun z_r337 => (lp_L_acts_248 tk N S oo zz M0 M1 M2 M3 rs de pc pg po dd lt pl f1s s2s tms x1 fu z_r337.1 (k4 + 1) z_r337.2.1 z_r337.2.2))))))))))))) else (kb (sh_X4_append z_r305.2.1 z_r305.2.2 112) (fun z_r342 => (kb (sh_X4_append z_r342.2.1 z_r342.2.2 (48 + (((((x1 / 32) / 4) >>> ((5 * k4) &&& 31)) / 8) - ((((x1 / 32) / 4) >>> ((5 * k4) &&& 31)) / 8) / 2 * 2))) (fun z_r347 => (kb (sh_X4_append z_r347.2.1 z_r347.2.2 58) (fun z_r352 => (kb (sh_X4_append z_r352.2.1 z_r352.2.2 (49 + (((((x1 / 32) / 4) >>> ((5 * k4) &&& 31)) / 16) - ((((x1 / 32) / 4) >>> ((5 * k4) &&& 31)) / 16) / 9 * 9))) (fun z_r357 => (if 3 ≤ ((((x1 / 32) / 4) >>> ((5 * k4) &&& 31)) - (((x1 / 32) / 4) >>> ((5 * k4) &&& 31)) / 8 * 8) then (if 1 ≤ ((((x1 / 32) / 4) >>> ((5 * k4) &&& 31)) - (((x1 / 32) / 4) >>> ((5 * k4) &&& 31)) / 8 * 8) then (if (((((x1 / 32) / 4) >>> ((5 * k4) &&& 31)) / 16) - ((((x1 / 32) / 4) >>> ((5 * k4) &&& 31)) / 16) / 3 * 3) = 0 then (kb (sh_X4_append z_r357.2.1 z_r357.2.2 120) (fun z_r371 => (if (((((x1 / 32) / 4) >>> ((5 * k4) &&& 31)) / 16) - ((((x1 / 32) / 4) >>> ((5 * k4) &&& 31)) / 16) / 3 * 3) = 0 then (kb (sh_X4_append z_r371.2.1 z_r371.2.2 (50 + (((((x1 / 32) / 4) >>> ((5 * k4) &&& 31)) / 128) - ((((x1 / 32) / 4) >>> ((5 * k4) &&& 31)) / 128) / 8 * 8))) (fun z_r377 => (lp_L_acts_248 tk N S oo zz M0 M1 M2 M3 rs de pc pg po dd lt pl f1s s2s tms x1 fu z_r377.1 (k4 + 1) z_r377.2.1 z_r377.2.2))) else (lp_L_acts_248 tk N S oo zz M0 M1 M2 M3 rs de pc pg po dd lt pl f1s s2s tms x1 fu z_r371.1 (k4 + 1) z_r371.2.1 z_r371.2.2)))) else (if (((((x1 / 32) / 4) >>> ((5 * k4) &&& 31)) / 16) - ((((x1 / 32) / 4) >>> ((5 * k4) &&& 31)) / 16) / 3 * 3) = 0 then (kb (sh_X4_append z_r357.2.1 z_r357.2.2 (50 + (((((x1 / 32) / 4) >>> ((5 * k4) &&& 31)) / 128) - ((((x1 / 32) / 4) >>> ((5 * k4) &&& 31)) / 128) / 8 * 8))) (fun z_r366 => (lp_L_acts_248 tk N S oo zz M0 M1 M2 M3 rs de pc pg po dd lt pl f1s s2s tms x1 fu z_r366.1 (k4 + 1) z_r366.2.1 z_r366.2.2))) else (lp_L_acts_248 tk N S oo zz M0 M1 M2 M3 rs de pc pg po dd lt pl f1s s2s tms x1 fu z_r357.1 (k4 + 1) z_r357.2.1 z_r357.2.2))) else (kb (sh_X4_append z_r357.2.1 z_r357.2.2 (48 + (((((x1 / 32) / 4) >>> ((5 * k4) &&& 31)) / 64) - ((((x1 / 32) / 4) >>> ((5 * k4) &&& 31)) / 64) / 10 * 10))) (fun z_r382 => (if (((((x1 / 32) / 4) >>> ((5 * k4) &&& 31)) / 16) - ((((x1 / 32) / 4) >>> ((5 * k4) &&& 31)) / 16) / 3 * 3) = 0 then (kb (sh_X4_append z_r382.2.1 z_r382.2.2 120) (fun z_r394 => (if (((((x1 / 32) / 4) >>> ((5 * k4) &&& 31)) / 16) - ((((x1 / 32) / 4) >>> ((5 * k4) &&& 31)) / 16) / 3 * 3) = 0 then (kb (sh_X4_append z_r394.2.1 z_r394.2.2 (50 + (((((x1 / 32) / 4) >>> ((5 * k4) &&& 31)) / 128) - ((((x1 / 32) / 4) >>> ((5 * k4) &&& 31)) / 128) / 8 * 8))) (fun z_r400 => (lp_L_acts_248 tk N S oo zz M0 M1 M2 M3 rs de pc pg po dd lt pl f1s s2s tms x1 fu z_r400.1 (k4 + 1) z_r400.2.1 z_r400.2.2))) else (lp_L_acts_248 tk N S oo zz M0 M1 M2 M3 rs de pc pg po dd lt pl f1s s2s tms x1 fu z_r394.1 (k4 + 1) z_r394.2.1 z_r394.2.2)))) else (if (((((x1 / 32) / 4) >>> ((5 * k4) &&& 31)) / 16) - ((((x1 / 32) / 4) >>> ((5 * k4) &&& 31)) / 16) / 3 * 3) = 0 then (kb (sh_X4_append z_r382.2.1 z_r382.2.2 (50 + (((((x1 / 32) / 4) >>> ((5 * k4) &&& 31)) / 128) - ((((x1 / 32) / 4) >>> ((5 * k4) &&& 31)) / 128) / 8 * 8))) (fun z_r389 => (lp_L_acts_248 tk N S oo zz M0 M1 M2 M3 rs de pc pg po dd lt pl f1s s2s tms x1 fu z_r389.1 (k4 + 1) z_r389.2.1 z_r389.2.2))) else (lp_L_acts_248 tk N S oo zz M0 M1 M2 M3 rs de pc pg po dd lt pl f1s s2s tms x1 fu z_r382.1 (k4 + 1) z_r382.2.1 z_r382.2.2)))))) else (kb (sh_X4_append z_r357.2.1 z_r357.2.2 (48 + (((((x1 / 32) / 4) >>> ((5 * k4) &&& 31)) / 32) - ((((x1 / 32) / 4) >>> ((5 * k4) &&& 31)) / 32) / 10 * 10))) (fun z_r405 => (if 1 ≤ ((((x1 / 32) / 4) >>> ((5 * k4) &&& 31)) - (((x1 / 32) / 4) >>> ((5 * k4) &&& 31)) / 8 * 8) then (if (((((x1 / 32) / 4) >>> ((5 * k4) &&& 31)) / 16) - ((((x1 / 32) / 4) >>> ((5 * k4) &&& 31)) / 16) / 3 * 3) = 0 then (kb (sh_X4_append z_r405.2.1 z_r405.2.2 120) (fun z_r418 => (if (((((x1 / 32) / 4) >>> ((5 * k4) &&& 31)) / 16) - ((((x1 / 32) / 4) >>> ((5 * k4) &&& 31)) / 16) / 3 * 3) = 0 then (kb (sh_X4_append z_r418.2.1 z_r418.2.2 (50 + (((((x1 / 32) / 4) >>> ((5 * k4) &&& 31)) / 128) - ((((x1 / 32) / 4) >>> ((5 * k4) &&& 31)) / 128) / 8 * 8))) (fun z_r424 => (lp_L_acts_248 tk N S oo zz M0 M1 M2 M3 rs de pc pg po dd lt pl f1s s2s tms x1 fu z_r424.1 (k4 + 1) z_r424.2.1 z_r424.2.2))) else (lp_L_acts_248 tk N S oo zz M0 M1 M2 M3 rs de pc pg po dd lt pl f1s s2s tms x1 fu z_r418.1 (k4 + 1) z_r418.2.1 z_r418.2.2)))) else (if (((((x1 / 32) / 4) >>> ((5 * k4) &&& 31)) / 16) - ((((x1 / 32) / 4) >>> ((5 * k4) &&& 31)) / 16) / 3 * 3) = 0 then (kb (sh_X4_append z_r405.2.1 z_r405.2.2 (50 + (((((x1 / 32) / 4) >>> ((5 * k4) &&& 31)) / 128) - ((((x1 / 32) / 4) >>> ((5 * k4) &&& 31)) / 128) / 8 * 8))) (fun z_r413 => (lp_L_acts_248 tk N S oo zz M0 M1 M2 M3 rs de pc pg po dd lt pl f1s s2s tms x1 fu z_r413.1 (k4 + 1) z_r413.2.1 z_r413.2.2))) else (lp_L_acts_248 tk N S oo zz M0 M1 M2 M3 rs de pc pg po dd lt pl f1s s2s tms x1 fu z_r405.1 (k4 + 1) z_r405.2.1 z_r405.2.2))) else (kb (sh_X4_append z_r405.2.1 z_r405.2.2 (48 + (((((x1 / 32) / 4) >>> ((5 * k4) &&& 31)) / 64) - ((((x1 / 32) / 4) >>> ((5 * k4) &&& 31)) / 64) / 10 * 10))) (fun z_r429 => (if (((((x1 / 32) / 4) >>> ((5 * k4) &&& 31)) / 16) - ((((x1 / 32) / 4) >>> ((5 * k4) &&& 31)) / 16) / 3 * 3) = 0 then (kb (sh_X4_append z_r429.2.1 z_r429.2.2 120) (fun z_r441 => (if (((((x1 / 32) / 4) >>> ((5 * k4) &&& 31)) / 16) - ((((x1 / 32) / 4) >>> ((5 * k4) &&& 31)) / 16) / 3 * 3) = 0 then (kb (sh_X4_append z_r441.2.1 z_r441.2.2 (50 + (((((x1 / 32) / 4) >>> ((5 * k4) &&& 31)) / 128) - ((((x1 / 32) / 4) >>> ((5 * k4) &&& 31)) / 128) / 8 * 8))) (fun z_r447 => (lp_L_acts_248 tk N S oo zz M0 M1 M2 M3 rs de pc pg po dd lt pl f1s s2s tms x1 fu z_r447.1 (k4 + 1) z_r447.2.1 z_r447.2.2))) else (lp_L_acts_248 tk N S oo zz M0 M1 M2 M3 rs de pc pg po dd lt pl f1s s2s tms x1 fu z_r441.1 (k4 + 1) z_r441.2.1 z_r441.2.2)))) else (if (((((x1 / 32) / 4) >>> ((5 * k4) &&& 31)) / 16) - ((((x1 / 32) / 4) >>> ((5 * k4) &&& 31)) / 16) / 3 * 3) = 0 then (kb (sh_X4_append z_r429.2.1 z_r429.2.2 (50 + (((((x1 / 32) / 4) >>> ((5 * k4) &&& 31)) / 128) - ((((x1 / 32) / 4) >>> ((5 * k4) &&& 31)) / 128) / 8 * 8))) (fun z_r436 => (lp_L_acts_248 tk N S oo zz M0 M1 M2 M3 rs de pc pg po dd lt pl f1s s2s tms x1 fu z_r436.1 (k4 + 1) z_r436.2.1 z_r436.2.2))) else (lp_L_acts_248 tk N S oo zz M0 M1 M2 M3 rs de pc pg po dd lt pl f1s s2s tms x1 fu z_r429.1 (k4 + 1) z_r429.2.1 z_r429.2.2)))))))))))))))))))))) := hq
        refine lv_iload hx hb dL_acts_248 (lv_at hl 0 rfl) ?_
        refine lv_iconst (v := 1) hx hb dL_acts_250 (by decide) ?_
        refine lv_iload_n hx hb dL_acts_251 rfl (lv_at hl 2 rfl) ?_
        refine lv_iconst (v := 4) hx hb dL_acts_252 (by decide) ?_
        refine lv_irem hx hb dL_acts_253 (by decide) ?_
        refine lv_iadd hx hb dL_acts_254 ?_
        refine lv_icmp_ge (tgt := 541) hx hb dL_acts_255 (by decide) (fun c127 => ?_) (fun c127 => ?_)
        · have hq := it_pos hq c127
          refine lv_iload_n hx hb dL_acts_541 rfl (lv_at hl 1 rfl) ?_
          refine lv_iconst (v := 1) hx hb dL_acts_542 (by decide) ?_
          refine lv_icmp_lt (tgt := 555) hx hb dL_acts_543 (by decide) (fun c128 => ?_) (fun c128 => ?_)
          · have hq := it_pos hq c128
            refine lv_bipush (v := (-9)) hx hb dL_acts_555 (by decide) ?_
            refine lv_goto (tgt := 564) hx hb dL_acts_557 (by decide) ?_
            exact hret _ _ _ _ ((-9)) (tk, N, S, oo, zz, M0, M1, M2, M3, rs, de, pc, pg, l_sg, l_ln, po, dd, lt, pl, f1s, s2s, tms) dL_acts_564 rfl (hq.symm.trans hX) hP hD hS
          · have hq := it_neg hq c128
            refine lv_aload_n hx hb dL_acts_546 rfl (lv_at hl 3 rfl) ?_
            have hPs := k_self hP
            have hDs := k_selfD hD
            refine k_behi (X := []) (Y := []) (va_runV (As := []) (rest := []) ⟨hx, hb, hml, hown, hts⟩ (c_X4_fault l D cI cC cQ H.size d0 n0 na s0 sa h1 h2 mm ma t0 p0 pa tk N S oo zz M0 M1 M2 M3 rs de pc pg l_sg l_ln po dd lt pl f1s s2s tms (hpad1.1)) (kcwV hts wd_ml_RL_44 wd_im_yX4_fault wd_sel_yX4_fault wd_ini_RX4 wd_code_yX4_fault rfl rfl rfl hd_X4_fault ⟨Nat.le_of_ble_eq_true rfl, Nat.le_of_ble_eq_true rfl⟩) ⟨in_blind, va_recv hK (pa_l (pa_r hPs)) (ci := 4) (q0 := 0) rfl rfl, k_pre hK (pa_l (pa_r hPs)) (da_l (da_r hDs)) hN⟩ rfl rfl hl.1 rfl (lv_room (Nat.le_of_ble_eq_true rfl)) dL_acts_547 ⟨Nat.le_of_ble_eq_true rfl, Nat.le_of_ble_eq_true rfl⟩) hPs hDs hS hA (fun r129 u130 H locs hw131 hP hD hS => ?_)
            obtain ⟨v132, v133, f134, f135, f136, f137, f138⟩ := u130
            have hP := k_unP hP
            have hD := k_unD hD
            have hP : va_P D vwCl (DW cI cC cQ d0 n0 na s0 sa h1 h2 mm ma t0 p0 pa tk N S oo zz M0 M1 M2 M3 rs de pc pg l_sg l_ln v132 v133 f134 f135 f136 f137 f138) H := hP
            have hD : va_D A (DW cI cC cQ d0 n0 na s0 sa h1 h2 mm ma t0 p0 pa tk N S oo zz M0 M1 M2 M3 rs de pc pg l_sg l_ln v132 v133 f134 f135 f136 f137 f138) := hD
            have hw131 : (r129, v132, v133, f134, f135, f136, f137, f138) = (sh_X4_fault l_sg l_ln lt pl f1s s2s tms) := hw131
            have hq := kb_to hq hw131
            refine lv_bipush (v := (-4)) hx hb dL_acts_550 (by decide) ?_
            refine lv_icmp_eq (tgt := 560) hx hb dL_acts_552 (by decide) (fun c139 => ?_) (fun c139 => ?_)
            · have hq := it_pos hq c139
              refine lv_aload_n hx hb dL_acts_560 rfl (lv_at hl 3 rfl) ?_
              have hPs := k_self hP
              have hDs := k_selfD hD
              refine k_behi (X := []) (Y := []) (va_runV (As := []) (rest := []) ⟨hx, hb, hml, hown, hts⟩ (c_X4_run l D cI cC cQ H.size d0 n0 na s0 sa h1 h2 mm ma t0 p0 pa tk N S oo zz M0 M1 M2 M3 rs de pc pg l_sg l_ln v132 v133 f134 f135 f136 f137 f138 (hoo) (hzz) (hpad1)) (kcwV hts wd_ml_RL_47 wd_im_yX4_run wd_sel_yX4_run wd_ini_RX4 wd_code_yX4_run rfl rfl rfl hd_X4_run ⟨Nat.le_of_ble_eq_true rfl, Nat.le_of_ble_eq_true rfl⟩) ⟨in_blind, va_recv hK (pa_l (pa_r hPs)) (ci := 4) (q0 := 0) rfl rfl, k_pre hK (pa_l (pa_r hPs)) (da_l (da_r hDs)) hN⟩ rfl rfl hl.1 rfl (lv_room (Nat.le_of_ble_eq_true rfl)) dL_acts_561 ⟨Nat.le_of_ble_eq_true rfl, Nat.le_of_ble_eq_true rfl⟩) hPs hDs hS hA (fun r140 u141 H locs hw142 hP hD hS => ?_)
              obtain ⟨t143, v144, v145, t146, t147, t148, t149, v150, v151, v152, v153, v154, v155, v156, f157, f158, f159, f160, f161⟩ := u141
              have hP := k_unP hP
              have hD := k_unD hD
              have hP : va_P D vwCl (DW cI cC cQ d0 n0 na s0 sa h1 h2 mm ma t0 p0 pa tk t143 S v144 v145 t146 t147 t148 t149 v150 v151 v152 v153 l_sg v154 v155 v156 f157 f158 f159 f160 f161) H := hP
              have hD : va_D A (DW cI cC cQ d0 n0 na s0 sa h1 h2 mm ma t0 p0 pa tk t143 S v144 v145 t146 t147 t148 t149 v150 v151 v152 v153 l_sg v154 v155 v156 f157 f158 f159 f160 f161) := hD
              have hw142 : (r140, t143, v144, v145, t146, t147, t148, t149, v150, v151, v152, v153, v154, v155, v156, f157, f158, f159, f160, f161) = (sh_X4_run N oo zz M0 M1 M2 M3 rs de pc pg l_sg l_ln f134 f135 f136 f137 f138) := hw142
              have hq := kb_to hq hw142
              exact hret _ _ _ _ (r140) (tk, t143, S, v144, v145, t146, t147, t148, t149, v150, v151, v152, v153, l_sg, v154, v155, v156, f157, f158, f159, f160, f161) dL_acts_564 rfl (hq.symm.trans hX) hP hD hS
            · have hq := it_neg hq c139
              refine lv_bipush (v := (-9)) hx hb dL_acts_555 (by decide) ?_
              refine lv_goto (tgt := 564) hx hb dL_acts_557 (by decide) ?_
              exact hret _ _ _ _ ((-9)) (tk, N, S, oo, zz, M0, M1, M2, M3, rs, de, pc, pg, l_sg, l_ln, v132, v133, f134, f135, f136, f137, f138) dL_acts_564 rfl (hq.symm.trans hX) hP hD hS
        · have hq := it_neg hq c127
          refine lv_iload_n hx hb dL_acts_258 rfl (lv_at hl 2 rfl) ?_
          refine lv_iconst (v := 4) hx hb dL_acts_259 (by decide) ?_
          refine lv_idiv hx hb dL_acts_260 (by decide) ?_
          refine lv_iconst (v := 5) hx hb dL_acts_261 (by decide) ?_
          refine lv_iload hx hb dL_acts_262 (lv_at hl 0 rfl) ?_
          refine lv_imul hx hb dL_acts_264 ?_
          refine lv_ishr hx hb dL_acts_265 ?_
          refine lv_istore (lv' := [(5, .int (((x1 / 32) / 4) >>> ((5 * k4) &&& 31))), (4, .int k4), (3, .int n3), (2, .int (x1 / 32)), (0, .ref d0), (1, .int x1)]) hx hb dL_acts_266 hl (by decide) rfl (fun ls hl => ?_)
          refine lv_iload hx hb dL_acts_268 (lv_at hl 1 rfl) ?_
          refine lv_if_le (tgt := 282) hx hb dL_acts_270 (by decide) (fun c162 => ?_) (fun c162 => ?_)
          · have hq := it_pos hq c162
            refine lv_iconst (v := 0) hx hb dL_acts_282 (by decide) ?_
            refine lv_istore_n (lv' := [(3, .int 0), (5, .int (((x1 / 32) / 4) >>> ((5 * k4) &&& 31))), (4, .int k4), (2, .int (x1 / 32)), (0, .ref d0), (1, .int x1)]) hx hb dL_acts_283 rfl hl (by decide) rfl (fun ls hl => ?_)
            refine lv_iload hx hb dL_acts_284 (lv_at hl 1 rfl) ?_
            refine lv_bipush (v := 8) hx hb dL_acts_286 (by decide) ?_
            refine lv_irem hx hb dL_acts_288 (by decide) ?_
            refine lv_iconst (v := 5) hx hb dL_acts_289 (by decide) ?_
            refine lv_icmp_ge (tgt := 451) hx hb dL_acts_290 (by decide) (fun c163 => ?_) (fun c163 => ?_)
            · have hq := it_pos hq c163
              refine lv_aload_n hx hb dL_acts_451 rfl (lv_at hl 4 rfl) ?_
              refine lv_iload hx hb dL_acts_452 (lv_at hl 1 rfl) ?_
              refine lv_bipush (v := 8) hx hb dL_acts_454 (by decide) ?_
              refine lv_irem hx hb dL_acts_456 (by decide) ?_
              refine lv_iconst (v := 5) hx hb dL_acts_457 (by decide) ?_
              have K : ∀ (v166 : Int32) (H : Heap) (locs : List Loc) (ls : Array Slot), v166 = (if ((((x1 / 32) / 4) >>> ((5 * k4) &&& 31)) - (((x1 / 32) / 4) >>> ((5 * k4) &&& 31)) / 8 * 8) = 5 then 115 else 109) → va_P D vwCl (DW cI cC cQ d0 n0 na s0 sa h1 h2 mm ma t0 p0 pa tk N S oo zz M0 M1 M2 M3 rs de pc pg l_sg l_ln po dd lt pl f1s s2s tms) H → va_D A (DW cI cC cQ d0 n0 na s0 sa h1 h2 mm ma t0 p0 pa tk N S oo zz M0 M1 M2 M3 rs de pc pg l_sg l_ln po dd lt pl f1s s2s tms) → va_S A s.heap H locs → lv_has ls 6 [(0, .ref d0), (1, .int x1), (2, .int (x1 / 32)), (3, .int 0), (4, .int k4), (5, .int (((x1 / 32) / 4) >>> ((5 * k4) &&& 31)))] → W p l e rm_L_acts s m args below meth c H locs 0 0 Q (F0 m 468 ls [.int v166, .ref d0]) := by
                intro v166 H locs ls hv165 hP hD hS hl
                have hq := kb_to hq hv165
                have hPs := k_self hP
                have hDs := k_selfD hD
                refine k_behi (X := []) (Y := []) (va_runV (As := [.int v166]) (rest := []) ⟨hx, hb, hml, hown, hts⟩ (c_X4_append l D cI cC cQ H.size d0 n0 na s0 sa h1 h2 mm ma t0 p0 pa tk N S oo zz M0 M1 M2 M3 rs de pc pg l_sg l_ln po dd lt pl f1s s2s tms v166 (hpad1.1)) (kcwV hts wd_ml_RL_41 wd_im_yX4_append wd_sel_yX4_append wd_ini_RX4 wd_code_yX4_append rfl rfl rfl hd_X4_append ⟨Nat.le_of_ble_eq_true rfl, Nat.le_of_ble_eq_true rfl⟩) ⟨in_blind, va_recv hK (pa_l (pa_r hPs)) (ci := 4) (q0 := 0) rfl rfl, k_pre hK (pa_l (pa_r hPs)) (da_l (da_r hDs)) hN⟩ rfl rfl hl.1 rfl (lv_room (Nat.le_of_ble_eq_true rfl)) dL_acts_468 ⟨Nat.le_of_ble_eq_true rfl, Nat.le_of_ble_eq_true rfl⟩) hPs hDs hS hA (fun r167 u168 H locs hw169 hP hD hS => ?_)
                obtain ⟨f170, v171⟩ := u168
                have hP := k_unP hP
                have hD := k_unD hD
                have hP : va_P D vwCl (DW cI cC cQ d0 n0 na s0 sa h1 h2 mm ma t0 p0 pa tk N S oo zz M0 M1 M2 M3 rs de pc pg f170 v171 po dd lt pl f1s s2s tms) H := hP
                have hD : va_D A (DW cI cC cQ d0 n0 na s0 sa h1 h2 mm ma t0 p0 pa tk N S oo zz M0 M1 M2 M3 rs de pc pg f170 v171 po dd lt pl f1s s2s tms) := hD
                have hw169 : (r167, f170, v171) = (sh_X4_append l_sg l_ln v166) := hw169
                have hq := kb_to hq hw169
                refine lv_istore_n (lv' := [(3, .int r167), (0, .ref d0), (1, .int x1), (2, .int (x1 / 32)), (4, .int k4), (5, .int (((x1 / 32) / 4) >>> ((5 * k4) &&& 31)))]) hx hb dL_acts_471 rfl hl (by decide) rfl (fun ls hl => ?_)
                refine lv_aload_n hx hb dL_acts_472 rfl (lv_at hl 1 rfl) ?_
                refine lv_bipush (v := 48) hx hb dL_acts_473 (by decide) ?_
                refine lv_iload hx hb dL_acts_475 (lv_at hl 5 rfl) ?_
                refine lv_bipush (v := 8) hx hb dL_acts_477 (by decide) ?_
                refine lv_idiv hx hb dL_acts_479 (by decide) ?_
                refine lv_iconst (v := 4) hx hb dL_acts_480 (by decide) ?_
                refine lv_irem hx hb dL_acts_481 (by decide) ?_
                refine lv_iadd hx hb dL_acts_482 ?_
                have hPs := k_self hP
                have hDs := k_selfD hD
                refine k_behi (X := []) (Y := []) (va_runV (As := [.int (48 + (((((x1 / 32) / 4) >>> ((5 * k4) &&& 31)) / 8) - ((((x1 / 32) / 4) >>> ((5 * k4) &&& 31)) / 8) / 4 * 4))]) (rest := []) ⟨hx, hb, hml, hown, hts⟩ (c_X4_append l D cI cC cQ H.size d0 n0 na s0 sa h1 h2 mm ma t0 p0 pa tk N S oo zz M0 M1 M2 M3 rs de pc pg f170 v171 po dd lt pl f1s s2s tms (48 + (((((x1 / 32) / 4) >>> ((5 * k4) &&& 31)) / 8) - ((((x1 / 32) / 4) >>> ((5 * k4) &&& 31)) / 8) / 4 * 4)) ((padr_apd hpad1 hw169).1)) (kcwV hts wd_ml_RL_41 wd_im_yX4_append wd_sel_yX4_append wd_ini_RX4 wd_code_yX4_append rfl rfl rfl hd_X4_append ⟨Nat.le_of_ble_eq_true rfl, Nat.le_of_ble_eq_true rfl⟩) ⟨in_blind, va_recv hK (pa_l (pa_r hPs)) (ci := 4) (q0 := 0) rfl rfl, k_pre hK (pa_l (pa_r hPs)) (da_l (da_r hDs)) hN⟩ rfl rfl hl.1 rfl (lv_room (Nat.le_of_ble_eq_true rfl)) dL_acts_483 ⟨Nat.le_of_ble_eq_true rfl, Nat.le_of_ble_eq_true rfl⟩) hPs hDs hS hA (fun r172 u173 H locs hw174 hP hD hS => ?_)
                obtain ⟨f175, v176⟩ := u173
                have hP := k_unP hP
                have hD := k_unD hD
                have hP : va_P D vwCl (DW cI cC cQ d0 n0 na s0 sa h1 h2 mm ma t0 p0 pa tk N S oo zz M0 M1 M2 M3 rs de pc pg f175 v176 po dd lt pl f1s s2s tms) H := hP
                have hD : va_D A (DW cI cC cQ d0 n0 na s0 sa h1 h2 mm ma t0 p0 pa tk N S oo zz M0 M1 M2 M3 rs de pc pg f175 v176 po dd lt pl f1s s2s tms) := hD
                have hw174 : (r172, f175, v176) = (sh_X4_append f170 v171 (48 + (((((x1 / 32) / 4) >>> ((5 * k4) &&& 31)) / 8) - ((((x1 / 32) / 4) >>> ((5 * k4) &&& 31)) / 8) / 4 * 4))) := hw174
                have hq := kb_to hq hw174
                refine lv_istore_n (lv' := [(3, .int r172), (0, .ref d0), (1, .int x1), (2, .int (x1 / 32)), (4, .int k4), (5, .int (((x1 / 32) / 4) >>> ((5 * k4) &&& 31)))]) hx hb dL_acts_486 rfl hl (by decide) rfl (fun ls hl => ?_)
                refine lv_iload hx hb dL_acts_487 (lv_at hl 5 rfl) ?_
                refine lv_bipush (v := 8) hx hb dL_acts_489 (by decide) ?_
                refine lv_irem hx hb dL_acts_491 (by decide) ?_
                refine lv_iconst (v := 5) hx hb dL_acts_492 (by decide) ?_
                refine lv_icmp_le (tgt := 505) hx hb dL_acts_493 (by decide) (fun c177 => ?_) (fun c177 => ?_)
                · have hq := it_pos hq c177
                  refine lv_iload_n hx hb dL_acts_505 rfl (lv_at hl 0 rfl) ?_
                  refine lv_istore_n (lv' := [(3, .int r172), (0, .ref d0), (1, .int x1), (2, .int (x1 / 32)), (4, .int k4), (5, .int (((x1 / 32) / 4) >>> ((5 * k4) &&& 31)))]) hx hb dL_acts_506 rfl hl (by decide) rfl (fun ls hl => ?_)
                  refine lv_iload hx hb dL_acts_507 (lv_at hl 5 rfl) ?_
                  refine lv_bipush (v := 8) hx hb dL_acts_509 (by decide) ?_
                  refine lv_irem hx hb dL_acts_511 (by decide) ?_
                  refine lv_iconst (v := 5) hx hb dL_acts_512 (by decide) ?_
                  refine lv_icmp_le (tgt := 533) hx hb dL_acts_513 (by decide) (fun c178 => ?_) (fun c178 => ?_)
                  · have hq := it_pos hq c178
                    refine lv_iload_n hx hb dL_acts_533 rfl (lv_at hl 0 rfl) ?_
                    refine lv_istore_n (lv' := [(3, .int r172), (0, .ref d0), (1, .int x1), (2, .int (x1 / 32)), (4, .int k4), (5, .int (((x1 / 32) / 4) >>> ((5 * k4) &&& 31)))]) hx hb dL_acts_534 rfl hl (by decide) rfl (fun ls hl => ?_)
                    refine lv_iinc (v := (k4 + 1)) (lv' := [(4, .int (k4 + 1)), (3, .int r172), (0, .ref d0), (1, .int x1), (2, .int (x1 / 32)), (5, .int (((x1 / 32) / 4) >>> ((5 * k4) &&& 31)))]) hx hb dL_acts_535 hl (k := 4) rfl rfl (by decide) rfl (fun ls hl => ?_)
                    refine lv_goto (tgt := 248) hx hb dL_acts_538 (by decide) ?_
                    exact ih (r172) ((k4 + 1)) (f175) (v176) _ _ _ (k_mu hmu c127) ((padr_apd (padr_apd hpad1 hw169) hw174)) hq hP hD hS (lv_sub hl [0, 1, 4, 2, 3] rfl)
                  · have hq := it_neg hq c178
                    refine lv_aload_n hx hb dL_acts_516 rfl (lv_at hl 1 rfl) ?_
                    refine lv_bipush (v := 48) hx hb dL_acts_517 (by decide) ?_
                    refine lv_iload hx hb dL_acts_519 (lv_at hl 5 rfl) ?_
                    refine lv_bipush (v := 32) hx hb dL_acts_521 (by decide) ?_
                    refine lv_idiv hx hb dL_acts_523 (by decide) ?_
                    refine lv_iconst (v := 2) hx hb dL_acts_524 (by decide) ?_
                    refine lv_irem hx hb dL_acts_525 (by decide) ?_
                    refine lv_iadd hx hb dL_acts_526 ?_
                    have hPs := k_self hP
                    have hDs := k_selfD hD
                    refine k_behi (X := []) (Y := []) (va_runV (As := [.int (48 + (((((x1 / 32) / 4) >>> ((5 * k4) &&& 31)) / 32) - ((((x1 / 32) / 4) >>> ((5 * k4) &&& 31)) / 32) / 2 * 2))]) (rest := []) ⟨hx, hb, hml, hown, hts⟩ (c_X4_append l D cI cC cQ H.size d0 n0 na s0 sa h1 h2 mm ma t0 p0 pa tk N S oo zz M0 M1 M2 M3 rs de pc pg f175 v176 po dd lt pl f1s s2s tms (48 + (((((x1 / 32) / 4) >>> ((5 * k4) &&& 31)) / 32) - ((((x1 / 32) / 4) >>> ((5 * k4) &&& 31)) / 32) / 2 * 2)) ((padr_apd (padr_apd hpad1 hw169) hw174).1)) (kcwV hts wd_ml_RL_41 wd_im_yX4_append wd_sel_yX4_append wd_ini_RX4 wd_code_yX4_append rfl rfl rfl hd_X4_append ⟨Nat.le_of_ble_eq_true rfl, Nat.le_of_ble_eq_true rfl⟩) ⟨in_blind, va_recv hK (pa_l (pa_r hPs)) (ci := 4) (q0 := 0) rfl rfl, k_pre hK (pa_l (pa_r hPs)) (da_l (da_r hDs)) hN⟩ rfl rfl hl.1 rfl (lv_room (Nat.le_of_ble_eq_true rfl)) dL_acts_527 ⟨Nat.le_of_ble_eq_true rfl, Nat.le_of_ble_eq_true rfl⟩) hPs hDs hS hA (fun r179 u180 H locs hw181 hP hD hS => ?_)
                    obtain ⟨f182, v183⟩ := u180
                    have hP := k_unP hP
                    have hD := k_unD hD
                    have hP : va_P D vwCl (DW cI cC cQ d0 n0 na s0 sa h1 h2 mm ma t0 p0 pa tk N S oo zz M0 M1 M2 M3 rs de pc pg f182 v183 po dd lt pl f1s s2s tms) H := hP
                    have hD : va_D A (DW cI cC cQ d0 n0 na s0 sa h1 h2 mm ma t0 p0 pa tk N S oo zz M0 M1 M2 M3 rs de pc pg f182 v183 po dd lt pl f1s s2s tms) := hD
                    have hw181 : (r179, f182, v183) = (sh_X4_append f175 v176 (48 + (((((x1 / 32) / 4) >>> ((5 * k4) &&& 31)) / 32) - ((((x1 / 32) / 4) >>> ((5 * k4) &&& 31)) / 32) / 2 * 2))) := hw181
                    have hq := kb_to hq hw181
                    refine lv_goto (tgt := 534) hx hb dL_acts_530 (by decide) ?_
                    refine lv_istore_n (lv' := [(3, .int r179), (0, .ref d0), (1, .int x1), (2, .int (x1 / 32)), (4, .int k4), (5, .int (((x1 / 32) / 4) >>> ((5 * k4) &&& 31)))]) hx hb dL_acts_534 rfl hl (by decide) rfl (fun ls hl => ?_)
                    refine lv_iinc (v := (k4 + 1)) (lv' := [(4, .int (k4 + 1)), (3, .int r179), (0, .ref d0), (1, .int x1), (2, .int (x1 / 32)), (5, .int (((x1 / 32) / 4) >>> ((5 * k4) &&& 31)))]) hx hb dL_acts_535 hl (k := 4) rfl rfl (by decide) rfl (fun ls hl => ?_)
                    refine lv_goto (tgt := 248) hx hb dL_acts_538 (by decide) ?_
                    exact ih (r179) ((k4 + 1)) (f182) (v183) _ _ _ (k_mu hmu c127) ((padr_apd (padr_apd (padr_apd hpad1 hw169) hw174) hw181)) hq hP hD hS (lv_sub hl [0, 1, 4, 2, 3] rfl)
                · have hq := it_neg hq c177
                  refine lv_aload_n hx hb dL_acts_496 rfl (lv_at hl 1 rfl) ?_
                  refine lv_bipush (v := 62) hx hb dL_acts_497 (by decide) ?_
                  have hPs := k_self hP
                  have hDs := k_selfD hD
                  refine k_behi (X := []) (Y := []) (va_runV (As := [.int 62]) (rest := []) ⟨hx, hb, hml, hown, hts⟩ (c_X4_append l D cI cC cQ H.size d0 n0 na s0 sa h1 h2 mm ma t0 p0 pa tk N S oo zz M0 M1 M2 M3 rs de pc pg f175 v176 po dd lt pl f1s s2s tms 62 ((padr_apd (padr_apd hpad1 hw169) hw174).1)) (kcwV hts wd_ml_RL_41 wd_im_yX4_append wd_sel_yX4_append wd_ini_RX4 wd_code_yX4_append rfl rfl rfl hd_X4_append ⟨Nat.le_of_ble_eq_true rfl, Nat.le_of_ble_eq_true rfl⟩) ⟨in_blind, va_recv hK (pa_l (pa_r hPs)) (ci := 4) (q0 := 0) rfl rfl, k_pre hK (pa_l (pa_r hPs)) (da_l (da_r hDs)) hN⟩ rfl rfl hl.1 rfl (lv_room (Nat.le_of_ble_eq_true rfl)) dL_acts_499 ⟨Nat.le_of_ble_eq_true rfl, Nat.le_of_ble_eq_true rfl⟩) hPs hDs hS hA (fun r184 u185 H locs hw186 hP hD hS => ?_)
                  obtain ⟨f187, v188⟩ := u185
                  have hP := k_unP hP
                  have hD := k_unD hD
                  have hP : va_P D vwCl (DW cI cC cQ d0 n0 na s0 sa h1 h2 mm ma t0 p0 pa tk N S oo zz M0 M1 M2 M3 rs de pc pg f187 v188 po dd lt pl f1s s2s tms) H := hP
                  have hD : va_D A (DW cI cC cQ d0 n0 na s0 sa h1 h2 mm ma t0 p0 pa tk N S oo zz M0 M1 M2 M3 rs de pc pg f187 v188 po dd lt pl f1s s2s tms) := hD
                  have hw186 : (r184, f187, v188) = (sh_X4_append f175 v176 62) := hw186
                  have hq := kb_to hq hw186
                  refine lv_goto (tgt := 506) hx hb dL_acts_502 (by decide) ?_
                  refine lv_istore_n (lv' := [(3, .int r184), (0, .ref d0), (1, .int x1), (2, .int (x1 / 32)), (4, .int k4), (5, .int (((x1 / 32) / 4) >>> ((5 * k4) &&& 31)))]) hx hb dL_acts_506 rfl hl (by decide) rfl (fun ls hl => ?_)
                  refine lv_iload hx hb dL_acts_507 (lv_at hl 5 rfl) ?_
                  refine lv_bipush (v := 8) hx hb dL_acts_509 (by decide) ?_
                  refine lv_irem hx hb dL_acts_511 (by decide) ?_
                  refine lv_iconst (v := 5) hx hb dL_acts_512 (by decide) ?_
                  refine lv_icmp_le (tgt := 533) hx hb dL_acts_513 (by decide) (fun c189 => ?_) (fun c189 => ?_)
                  · have hq := it_pos hq c189
                    refine lv_iload_n hx hb dL_acts_533 rfl (lv_at hl 0 rfl) ?_
                    refine lv_istore_n (lv' := [(3, .int r184), (0, .ref d0), (1, .int x1), (2, .int (x1 / 32)), (4, .int k4), (5, .int (((x1 / 32) / 4) >>> ((5 * k4) &&& 31)))]) hx hb dL_acts_534 rfl hl (by decide) rfl (fun ls hl => ?_)
                    refine lv_iinc (v := (k4 + 1)) (lv' := [(4, .int (k4 + 1)), (3, .int r184), (0, .ref d0), (1, .int x1), (2, .int (x1 / 32)), (5, .int (((x1 / 32) / 4) >>> ((5 * k4) &&& 31)))]) hx hb dL_acts_535 hl (k := 4) rfl rfl (by decide) rfl (fun ls hl => ?_)
                    refine lv_goto (tgt := 248) hx hb dL_acts_538 (by decide) ?_
                    exact ih (r184) ((k4 + 1)) (f187) (v188) _ _ _ (k_mu hmu c127) ((padr_apd (padr_apd (padr_apd hpad1 hw169) hw174) hw186)) hq hP hD hS (lv_sub hl [0, 1, 4, 2, 3] rfl)
                  · have hq := it_neg hq c189
                    refine lv_aload_n hx hb dL_acts_516 rfl (lv_at hl 1 rfl) ?_
                    refine lv_bipush (v := 48) hx hb dL_acts_517 (by decide) ?_
                    refine lv_iload hx hb dL_acts_519 (lv_at hl 5 rfl) ?_
                    refine lv_bipush (v := 32) hx hb dL_acts_521 (by decide) ?_
                    refine lv_idiv hx hb dL_acts_523 (by decide) ?_
                    refine lv_iconst (v := 2) hx hb dL_acts_524 (by decide) ?_
                    refine lv_irem hx hb dL_acts_525 (by decide) ?_
                    refine lv_iadd hx hb dL_acts_526 ?_
                    have hPs := k_self hP
                    have hDs := k_selfD hD
                    refine k_behi (X := []) (Y := []) (va_runV (As := [.int (48 + (((((x1 / 32) / 4) >>> ((5 * k4) &&& 31)) / 32) - ((((x1 / 32) / 4) >>> ((5 * k4) &&& 31)) / 32) / 2 * 2))]) (rest := []) ⟨hx, hb, hml, hown, hts⟩ (c_X4_append l D cI cC cQ H.size d0 n0 na s0 sa h1 h2 mm ma t0 p0 pa tk N S oo zz M0 M1 M2 M3 rs de pc pg f187 v188 po dd lt pl f1s s2s tms (48 + (((((x1 / 32) / 4) >>> ((5 * k4) &&& 31)) / 32) - ((((x1 / 32) / 4) >>> ((5 * k4) &&& 31)) / 32) / 2 * 2)) ((padr_apd (padr_apd (padr_apd hpad1 hw169) hw174) hw186).1)) (kcwV hts wd_ml_RL_41 wd_im_yX4_append wd_sel_yX4_append wd_ini_RX4 wd_code_yX4_append rfl rfl rfl hd_X4_append ⟨Nat.le_of_ble_eq_true rfl, Nat.le_of_ble_eq_true rfl⟩) ⟨in_blind, va_recv hK (pa_l (pa_r hPs)) (ci := 4) (q0 := 0) rfl rfl, k_pre hK (pa_l (pa_r hPs)) (da_l (da_r hDs)) hN⟩ rfl rfl hl.1 rfl (lv_room (Nat.le_of_ble_eq_true rfl)) dL_acts_527 ⟨Nat.le_of_ble_eq_true rfl, Nat.le_of_ble_eq_true rfl⟩) hPs hDs hS hA (fun r190 u191 H locs hw192 hP hD hS => ?_)
                    obtain ⟨f193, v194⟩ := u191
                    have hP := k_unP hP
                    have hD := k_unD hD
                    have hP : va_P D vwCl (DW cI cC cQ d0 n0 na s0 sa h1 h2 mm ma t0 p0 pa tk N S oo zz M0 M1 M2 M3 rs de pc pg f193 v194 po dd lt pl f1s s2s tms) H := hP
                    have hD : va_D A (DW cI cC cQ d0 n0 na s0 sa h1 h2 mm ma t0 p0 pa tk N S oo zz M0 M1 M2 M3 rs de pc pg f193 v194 po dd lt pl f1s s2s tms) := hD
                    have hw192 : (r190, f193, v194) = (sh_X4_append f187 v188 (48 + (((((x1 / 32) / 4) >>> ((5 * k4) &&& 31)) / 32) - ((((x1 / 32) / 4) >>> ((5 * k4) &&& 31)) / 32) / 2 * 2))) := hw192
                    have hq := kb_to hq hw192
                    refine lv_goto (tgt := 534) hx hb dL_acts_530 (by decide) ?_
                    refine lv_istore_n (lv' := [(3, .int r190), (0, .ref d0), (1, .int x1), (2, .int (x1 / 32)), (4, .int k4), (5, .int (((x1 / 32) / 4) >>> ((5 * k4) &&& 31)))]) hx hb dL_acts_534 rfl hl (by decide) rfl (fun ls hl => ?_)
                    refine lv_iinc (v := (k4 + 1)) (lv' := [(4, .int (k4 + 1)), (3, .int r190), (0, .ref d0), (1, .int x1), (2, .int (x1 / 32)), (5, .int (((x1 / 32) / 4) >>> ((5 * k4) &&& 31)))]) hx hb dL_acts_535 hl (k := 4) rfl rfl (by decide) rfl (fun ls hl => ?_)
                    refine lv_goto (tgt := 248) hx hb dL_acts_538 (by decide) ?_
                    exact ih (r190) ((k4 + 1)) (f193) (v194) _ _ _ (k_mu hmu c127) ((padr_apd (padr_apd (padr_apd (padr_apd hpad1 hw169) hw174) hw186) hw192)) hq hP hD hS (lv_sub hl [0, 1, 4, 2, 3] rfl)
              refine lv_icmp_ne (tgt := 466) hx hb dL_acts_458 (by decide) (fun c164 => ?_) (fun c164 => ?_)
              · skip
                refine lv_bipush (v := 109) hx hb dL_acts_466 (by decide) ?_
                exact K (109) _ _ _ (by rw [if_neg c164]) hP hD hS (lv_sub hl [4, 5, 3, 0, 2, 1] rfl)
              · skip
                refine lv_bipush (v := 115) hx hb dL_acts_461 (by decide) ?_
                refine lv_goto (tgt := 468) hx hb dL_acts_463 (by decide) ?_
                exact K (115) _ _ _ (by rw [if_pos c164]) hP hD hS (lv_sub hl [4, 5, 3, 0, 2, 1] rfl)
            · have hq := it_neg hq c163
              refine lv_aload_n hx hb dL_acts_293 rfl (lv_at hl 4 rfl) ?_
              refine lv_bipush (v := 112) hx hb dL_acts_294 (by decide) ?_
              have hPs := k_self hP
              have hDs := k_selfD hD
              refine k_behi (X := []) (Y := []) (va_runV (As := [.int 112]) (rest := []) ⟨hx, hb, hml, hown, hts⟩ (c_X4_append l D cI cC cQ H.size d0 n0 na s0 sa h1 h2 mm ma t0 p0 pa tk N S oo zz M0 M1 M2 M3 rs de pc pg l_sg l_ln po dd lt pl f1s s2s tms 112 (hpad1.1)) (kcwV hts wd_ml_RL_41 wd_im_yX4_append wd_sel_yX4_append wd_ini_RX4 wd_code_yX4_append rfl rfl rfl hd_X4_append ⟨Nat.le_of_ble_eq_true rfl, Nat.le_of_ble_eq_true rfl⟩) ⟨in_blind, va_recv hK (pa_l (pa_r hPs)) (ci := 4) (q0 := 0) rfl rfl, k_pre hK (pa_l (pa_r hPs)) (da_l (da_r hDs)) hN⟩ rfl rfl hl.1 rfl (lv_room (Nat.le_of_ble_eq_true rfl)) dL_acts_296 ⟨Nat.le_of_ble_eq_true rfl, Nat.le_of_ble_eq_true rfl⟩) hPs hDs hS hA (fun r195 u196 H locs hw197 hP hD hS => ?_)
              obtain ⟨f198, v199⟩ := u196
              have hP := k_unP hP
              have hD := k_unD hD
              have hP : va_P D vwCl (DW cI cC cQ d0 n0 na s0 sa h1 h2 mm ma t0 p0 pa tk N S oo zz M0 M1 M2 M3 rs de pc pg f198 v199 po dd lt pl f1s s2s tms) H := hP
              have hD : va_D A (DW cI cC cQ d0 n0 na s0 sa h1 h2 mm ma t0 p0 pa tk N S oo zz M0 M1 M2 M3 rs de pc pg f198 v199 po dd lt pl f1s s2s tms) := hD
              have hw197 : (r195, f198, v199) = (sh_X4_append l_sg l_ln 112) := hw197
              have hq := kb_to hq hw197
              refine lv_istore_n (lv' := [(3, .int r195), (5, .int (((x1 / 32) / 4) >>> ((5 * k4) &&& 31))), (4, .int k4), (2, .int (x1 / 32)), (0, .ref d0), (1, .int x1)]) hx hb dL_acts_299 rfl hl (by decide) rfl (fun ls hl => ?_)
              refine lv_aload_n hx hb dL_acts_300 rfl (lv_at hl 4 rfl) ?_
              refine lv_bipush (v := 48) hx hb dL_acts_301 (by decide) ?_
              refine lv_iload hx hb dL_acts_303 (lv_at hl 1 rfl) ?_
              refine lv_bipush (v := 8) hx hb dL_acts_305 (by decide) ?_
              refine lv_idiv hx hb dL_acts_307 (by decide) ?_
              refine lv_iconst (v := 2) hx hb dL_acts_308 (by decide) ?_
              refine lv_irem hx hb dL_acts_309 (by decide) ?_
              refine lv_iadd hx hb dL_acts_310 ?_
              have hPs := k_self hP
              have hDs := k_selfD hD
              refine k_behi (X := []) (Y := []) (va_runV (As := [.int (48 + (((((x1 / 32) / 4) >>> ((5 * k4) &&& 31)) / 8) - ((((x1 / 32) / 4) >>> ((5 * k4) &&& 31)) / 8) / 2 * 2))]) (rest := []) ⟨hx, hb, hml, hown, hts⟩ (c_X4_append l D cI cC cQ H.size d0 n0 na s0 sa h1 h2 mm ma t0 p0 pa tk N S oo zz M0 M1 M2 M3 rs de pc pg f198 v199 po dd lt pl f1s s2s tms (48 + (((((x1 / 32) / 4) >>> ((5 * k4) &&& 31)) / 8) - ((((x1 / 32) / 4) >>> ((5 * k4) &&& 31)) / 8) / 2 * 2)) ((padr_apd hpad1 hw197).1)) (kcwV hts wd_ml_RL_41 wd_im_yX4_append wd_sel_yX4_append wd_ini_RX4 wd_code_yX4_append rfl rfl rfl hd_X4_append ⟨Nat.le_of_ble_eq_true rfl, Nat.le_of_ble_eq_true rfl⟩) ⟨in_blind, va_recv hK (pa_l (pa_r hPs)) (ci := 4) (q0 := 0) rfl rfl, k_pre hK (pa_l (pa_r hPs)) (da_l (da_r hDs)) hN⟩ rfl rfl hl.1 rfl (lv_room (Nat.le_of_ble_eq_true rfl)) dL_acts_311 ⟨Nat.le_of_ble_eq_true rfl, Nat.le_of_ble_eq_true rfl⟩) hPs hDs hS hA (fun r200 u201 H locs hw202 hP hD hS => ?_)
              obtain ⟨f203, v204⟩ := u201
              have hP := k_unP hP
              have hD := k_unD hD
              have hP : va_P D vwCl (DW cI cC cQ d0 n0 na s0 sa h1 h2 mm ma t0 p0 pa tk N S oo zz M0 M1 M2 M3 rs de pc pg f203 v204 po dd lt pl f1s s2s tms) H := hP
              have hD : va_D A (DW cI cC cQ d0 n0 na s0 sa h1 h2 mm ma t0 p0 pa tk N S oo zz M0 M1 M2 M3 rs de pc pg f203 v204 po dd lt pl f1s s2s tms) := hD
              have hw202 : (r200, f203, v204) = (sh_X4_append f198 v199 (48 + (((((x1 / 32) / 4) >>> ((5 * k4) &&& 31)) / 8) - ((((x1 / 32) / 4) >>> ((5 * k4) &&& 31)) / 8) / 2 * 2))) := hw202
              have hq := kb_to hq hw202
              refine lv_istore_n (lv' := [(3, .int r200), (5, .int (((x1 / 32) / 4) >>> ((5 * k4) &&& 31))), (4, .int k4), (2, .int (x1 / 32)), (0, .ref d0), (1, .int x1)]) hx hb dL_acts_314 rfl hl (by decide) rfl (fun ls hl => ?_)
              refine lv_aload_n hx hb dL_acts_315 rfl (lv_at hl 4 rfl) ?_
              refine lv_bipush (v := 58) hx hb dL_acts_316 (by decide) ?_
              have hPs := k_self hP
              have hDs := k_selfD hD
              refine k_behi (X := []) (Y := []) (va_runV (As := [.int 58]) (rest := []) ⟨hx, hb, hml, hown, hts⟩ (c_X4_append l D cI cC cQ H.size d0 n0 na s0 sa h1 h2 mm ma t0 p0 pa tk N S oo zz M0 M1 M2 M3 rs de pc pg f203 v204 po dd lt pl f1s s2s tms 58 ((padr_apd (padr_apd hpad1 hw197) hw202).1)) (kcwV hts wd_ml_RL_41 wd_im_yX4_append wd_sel_yX4_append wd_ini_RX4 wd_code_yX4_append rfl rfl rfl hd_X4_append ⟨Nat.le_of_ble_eq_true rfl, Nat.le_of_ble_eq_true rfl⟩) ⟨in_blind, va_recv hK (pa_l (pa_r hPs)) (ci := 4) (q0 := 0) rfl rfl, k_pre hK (pa_l (pa_r hPs)) (da_l (da_r hDs)) hN⟩ rfl rfl hl.1 rfl (lv_room (Nat.le_of_ble_eq_true rfl)) dL_acts_318 ⟨Nat.le_of_ble_eq_true rfl, Nat.le_of_ble_eq_true rfl⟩) hPs hDs hS hA (fun r205 u206 H locs hw207 hP hD hS => ?_)
              obtain ⟨f208, v209⟩ := u206
              have hP := k_unP hP
              have hD := k_unD hD
              have hP : va_P D vwCl (DW cI cC cQ d0 n0 na s0 sa h1 h2 mm ma t0 p0 pa tk N S oo zz M0 M1 M2 M3 rs de pc pg f208 v209 po dd lt pl f1s s2s tms) H := hP
              have hD : va_D A (DW cI cC cQ d0 n0 na s0 sa h1 h2 mm ma t0 p0 pa tk N S oo zz M0 M1 M2 M3 rs de pc pg f208 v209 po dd lt pl f1s s2s tms) := hD
              have hw207 : (r205, f208, v209) = (sh_X4_append f203 v204 58) := hw207
              have hq := kb_to hq hw207
              refine lv_istore_n (lv' := [(3, .int r205), (5, .int (((x1 / 32) / 4) >>> ((5 * k4) &&& 31))), (4, .int k4), (2, .int (x1 / 32)), (0, .ref d0), (1, .int x1)]) hx hb dL_acts_321 rfl hl (by decide) rfl (fun ls hl => ?_)
              refine lv_aload_n hx hb dL_acts_322 rfl (lv_at hl 4 rfl) ?_
              refine lv_bipush (v := 49) hx hb dL_acts_323 (by decide) ?_
              refine lv_iload hx hb dL_acts_325 (lv_at hl 1 rfl) ?_
              refine lv_bipush (v := 16) hx hb dL_acts_327 (by decide) ?_
              refine lv_idiv hx hb dL_acts_329 (by decide) ?_
              refine lv_bipush (v := 9) hx hb dL_acts_330 (by decide) ?_
              refine lv_irem hx hb dL_acts_332 (by decide) ?_
              refine lv_iadd hx hb dL_acts_333 ?_
              have hPs := k_self hP
              have hDs := k_selfD hD
              refine k_behi (X := []) (Y := []) (va_runV (As := [.int (49 + (((((x1 / 32) / 4) >>> ((5 * k4) &&& 31)) / 16) - ((((x1 / 32) / 4) >>> ((5 * k4) &&& 31)) / 16) / 9 * 9))]) (rest := []) ⟨hx, hb, hml, hown, hts⟩ (c_X4_append l D cI cC cQ H.size d0 n0 na s0 sa h1 h2 mm ma t0 p0 pa tk N S oo zz M0 M1 M2 M3 rs de pc pg f208 v209 po dd lt pl f1s s2s tms (49 + (((((x1 / 32) / 4) >>> ((5 * k4) &&& 31)) / 16) - ((((x1 / 32) / 4) >>> ((5 * k4) &&& 31)) / 16) / 9 * 9)) ((padr_apd (padr_apd (padr_apd hpad1 hw197) hw202) hw207).1)) (kcwV hts wd_ml_RL_41 wd_im_yX4_append wd_sel_yX4_append wd_ini_RX4 wd_code_yX4_append rfl rfl rfl hd_X4_append ⟨Nat.le_of_ble_eq_true rfl, Nat.le_of_ble_eq_true rfl⟩) ⟨in_blind, va_recv hK (pa_l (pa_r hPs)) (ci := 4) (q0 := 0) rfl rfl, k_pre hK (pa_l (pa_r hPs)) (da_l (da_r hDs)) hN⟩ rfl rfl hl.1 rfl (lv_room (Nat.le_of_ble_eq_true rfl)) dL_acts_334 ⟨Nat.le_of_ble_eq_true rfl, Nat.le_of_ble_eq_true rfl⟩) hPs hDs hS hA (fun r210 u211 H locs hw212 hP hD hS => ?_)
              obtain ⟨f213, v214⟩ := u211
              have hP := k_unP hP
              have hD := k_unD hD
              have hP : va_P D vwCl (DW cI cC cQ d0 n0 na s0 sa h1 h2 mm ma t0 p0 pa tk N S oo zz M0 M1 M2 M3 rs de pc pg f213 v214 po dd lt pl f1s s2s tms) H := hP
              have hD : va_D A (DW cI cC cQ d0 n0 na s0 sa h1 h2 mm ma t0 p0 pa tk N S oo zz M0 M1 M2 M3 rs de pc pg f213 v214 po dd lt pl f1s s2s tms) := hD
              have hw212 : (r210, f213, v214) = (sh_X4_append f208 v209 (49 + (((((x1 / 32) / 4) >>> ((5 * k4) &&& 31)) / 16) - ((((x1 / 32) / 4) >>> ((5 * k4) &&& 31)) / 16) / 9 * 9))) := hw212
              have hq := kb_to hq hw212
              refine lv_istore_n (lv' := [(3, .int r210), (5, .int (((x1 / 32) / 4) >>> ((5 * k4) &&& 31))), (4, .int k4), (2, .int (x1 / 32)), (0, .ref d0), (1, .int x1)]) hx hb dL_acts_337 rfl hl (by decide) rfl (fun ls hl => ?_)
              refine lv_iload hx hb dL_acts_338 (lv_at hl 1 rfl) ?_
              refine lv_bipush (v := 8) hx hb dL_acts_340 (by decide) ?_
              refine lv_irem hx hb dL_acts_342 (by decide) ?_
              refine lv_iconst (v := 3) hx hb dL_acts_343 (by decide) ?_
              refine lv_icmp_ge (tgt := 365) hx hb dL_acts_344 (by decide) (fun c215 => ?_) (fun c215 => ?_)
              · have hq := it_pos hq c215
                refine lv_iload_n hx hb dL_acts_365 rfl (lv_at hl 0 rfl) ?_
                refine lv_istore_n (lv' := [(3, .int r210), (5, .int (((x1 / 32) / 4) >>> ((5 * k4) &&& 31))), (4, .int k4), (2, .int (x1 / 32)), (0, .ref d0), (1, .int x1)]) hx hb dL_acts_366 rfl hl (by decide) rfl (fun ls hl => ?_)
                refine lv_iload hx hb dL_acts_367 (lv_at hl 1 rfl) ?_
                refine lv_bipush (v := 8) hx hb dL_acts_369 (by decide) ?_
                refine lv_irem hx hb dL_acts_371 (by decide) ?_
                refine lv_iconst (v := 1) hx hb dL_acts_372 (by decide) ?_
                refine lv_icmp_ge (tgt := 394) hx hb dL_acts_373 (by decide) (fun c216 => ?_) (fun c216 => ?_)
                · have hq := it_pos hq c216
                  refine lv_iload_n hx hb dL_acts_394 rfl (lv_at hl 0 rfl) ?_
                  refine lv_istore_n (lv' := [(3, .int r210), (5, .int (((x1 / 32) / 4) >>> ((5 * k4) &&& 31))), (4, .int k4), (2, .int (x1 / 32)), (0, .ref d0), (1, .int x1)]) hx hb dL_acts_395 rfl hl (by decide) rfl (fun ls hl => ?_)
                  refine lv_iload hx hb dL_acts_396 (lv_at hl 1 rfl) ?_
                  refine lv_bipush (v := 16) hx hb dL_acts_398 (by decide) ?_
                  refine lv_idiv hx hb dL_acts_400 (by decide) ?_
                  refine lv_iconst (v := 3) hx hb dL_acts_401 (by decide) ?_
                  refine lv_irem hx hb dL_acts_402 (by decide) ?_
                  refine lv_if_ne (tgt := 415) hx hb dL_acts_403 (by decide) (fun c217 => ?_) (fun c217 => ?_)
                  · have hq := it_neg hq c217
                    refine lv_iload_n hx hb dL_acts_415 rfl (lv_at hl 0 rfl) ?_
                    refine lv_istore_n (lv' := [(3, .int r210), (5, .int (((x1 / 32) / 4) >>> ((5 * k4) &&& 31))), (4, .int k4), (2, .int (x1 / 32)), (0, .ref d0), (1, .int x1)]) hx hb dL_acts_416 rfl hl (by decide) rfl (fun ls hl => ?_)
                    refine lv_iload hx hb dL_acts_417 (lv_at hl 1 rfl) ?_
                    refine lv_bipush (v := 16) hx hb dL_acts_419 (by decide) ?_
                    refine lv_idiv hx hb dL_acts_421 (by decide) ?_
                    refine lv_iconst (v := 3) hx hb dL_acts_422 (by decide) ?_
                    refine lv_irem hx hb dL_acts_423 (by decide) ?_
                    refine lv_if_ne (tgt := 446) hx hb dL_acts_424 (by decide) (fun c218 => ?_) (fun c218 => ?_)
                    · have hq := it_neg hq c218
                      refine lv_iload_n hx hb dL_acts_446 rfl (lv_at hl 0 rfl) ?_
                      refine lv_istore_n (lv' := [(3, .int r210), (5, .int (((x1 / 32) / 4) >>> ((5 * k4) &&& 31))), (4, .int k4), (2, .int (x1 / 32)), (0, .ref d0), (1, .int x1)]) hx hb dL_acts_447 rfl hl (by decide) rfl (fun ls hl => ?_)
                      refine lv_goto (tgt := 535) hx hb dL_acts_448 (by decide) ?_
                      refine lv_iinc (v := (k4 + 1)) (lv' := [(4, .int (k4 + 1)), (3, .int r210), (5, .int (((x1 / 32) / 4) >>> ((5 * k4) &&& 31))), (2, .int (x1 / 32)), (0, .ref d0), (1, .int x1)]) hx hb dL_acts_535 hl (k := 2) rfl rfl (by decide) rfl (fun ls hl => ?_)
                      refine lv_goto (tgt := 248) hx hb dL_acts_538 (by decide) ?_
                      exact ih (r210) ((k4 + 1)) (f213) (v214) _ _ _ (k_mu hmu c127) ((padr_apd (padr_apd (padr_apd (padr_apd hpad1 hw197) hw202) hw207) hw212)) hq hP hD hS (lv_sub hl [0, 1, 3, 4, 5] rfl)
                    · have hq := it_pos hq c218
                      refine lv_aload_n hx hb dL_acts_427 rfl (lv_at hl 4 rfl) ?_
                      refine lv_bipush (v := 50) hx hb dL_acts_428 (by decide) ?_
                      refine lv_iload hx hb dL_acts_430 (lv_at hl 1 rfl) ?_
                      refine lv_sipush (v := 128) hx hb dL_acts_432 (by decide) ?_
                      refine lv_idiv hx hb dL_acts_435 (by decide) ?_
                      refine lv_bipush (v := 8) hx hb dL_acts_436 (by decide) ?_
                      refine lv_irem hx hb dL_acts_438 (by decide) ?_
                      refine lv_iadd hx hb dL_acts_439 ?_
                      have hPs := k_self hP
                      have hDs := k_selfD hD
                      refine k_behi (X := []) (Y := []) (va_runV (As := [.int (50 + (((((x1 / 32) / 4) >>> ((5 * k4) &&& 31)) / 128) - ((((x1 / 32) / 4) >>> ((5 * k4) &&& 31)) / 128) / 8 * 8))]) (rest := []) ⟨hx, hb, hml, hown, hts⟩ (c_X4_append l D cI cC cQ H.size d0 n0 na s0 sa h1 h2 mm ma t0 p0 pa tk N S oo zz M0 M1 M2 M3 rs de pc pg f213 v214 po dd lt pl f1s s2s tms (50 + (((((x1 / 32) / 4) >>> ((5 * k4) &&& 31)) / 128) - ((((x1 / 32) / 4) >>> ((5 * k4) &&& 31)) / 128) / 8 * 8)) ((padr_apd (padr_apd (padr_apd (padr_apd hpad1 hw197) hw202) hw207) hw212).1)) (kcwV hts wd_ml_RL_41 wd_im_yX4_append wd_sel_yX4_append wd_ini_RX4 wd_code_yX4_append rfl rfl rfl hd_X4_append ⟨Nat.le_of_ble_eq_true rfl, Nat.le_of_ble_eq_true rfl⟩) ⟨in_blind, va_recv hK (pa_l (pa_r hPs)) (ci := 4) (q0 := 0) rfl rfl, k_pre hK (pa_l (pa_r hPs)) (da_l (da_r hDs)) hN⟩ rfl rfl hl.1 rfl (lv_room (Nat.le_of_ble_eq_true rfl)) dL_acts_440 ⟨Nat.le_of_ble_eq_true rfl, Nat.le_of_ble_eq_true rfl⟩) hPs hDs hS hA (fun r219 u220 H locs hw221 hP hD hS => ?_)
                      obtain ⟨f222, v223⟩ := u220
                      have hP := k_unP hP
                      have hD := k_unD hD
                      have hP : va_P D vwCl (DW cI cC cQ d0 n0 na s0 sa h1 h2 mm ma t0 p0 pa tk N S oo zz M0 M1 M2 M3 rs de pc pg f222 v223 po dd lt pl f1s s2s tms) H := hP
                      have hD : va_D A (DW cI cC cQ d0 n0 na s0 sa h1 h2 mm ma t0 p0 pa tk N S oo zz M0 M1 M2 M3 rs de pc pg f222 v223 po dd lt pl f1s s2s tms) := hD
                      have hw221 : (r219, f222, v223) = (sh_X4_append f213 v214 (50 + (((((x1 / 32) / 4) >>> ((5 * k4) &&& 31)) / 128) - ((((x1 / 32) / 4) >>> ((5 * k4) &&& 31)) / 128) / 8 * 8))) := hw221
                      have hq := kb_to hq hw221
                      refine lv_goto (tgt := 447) hx hb dL_acts_443 (by decide) ?_
                      refine lv_istore_n (lv' := [(3, .int r219), (5, .int (((x1 / 32) / 4) >>> ((5 * k4) &&& 31))), (4, .int k4), (2, .int (x1 / 32)), (0, .ref d0), (1, .int x1)]) hx hb dL_acts_447 rfl hl (by decide) rfl (fun ls hl => ?_)
                      refine lv_goto (tgt := 535) hx hb dL_acts_448 (by decide) ?_
                      refine lv_iinc (v := (k4 + 1)) (lv' := [(4, .int (k4 + 1)), (3, .int r219), (5, .int (((x1 / 32) / 4) >>> ((5 * k4) &&& 31))), (2, .int (x1 / 32)), (0, .ref d0), (1, .int x1)]) hx hb dL_acts_535 hl (k := 2) rfl rfl (by decide) rfl (fun ls hl => ?_)
                      refine lv_goto (tgt := 248) hx hb dL_acts_538 (by decide) ?_
                      exact ih (r219) ((k4 + 1)) (f222) (v223) _ _ _ (k_mu hmu c127) ((padr_apd (padr_apd (padr_apd (padr_apd (padr_apd hpad1 hw197) hw202) hw207) hw212) hw221)) hq hP hD hS (lv_sub hl [0, 1, 3, 4, 5] rfl)
                  · have hq := it_pos hq c217
                    refine lv_aload_n hx hb dL_acts_406 rfl (lv_at hl 4 rfl) ?_
                    refine lv_bipush (v := 120) hx hb dL_acts_407 (by decide) ?_
                    have hPs := k_self hP
                    have hDs := k_selfD hD
                    refine k_behi (X := []) (Y := []) (va_runV (As := [.int 120]) (rest := []) ⟨hx, hb, hml, hown, hts⟩ (c_X4_append l D cI cC cQ H.size d0 n0 na s0 sa h1 h2 mm ma t0 p0 pa tk N S oo zz M0 M1 M2 M3 rs de pc pg f213 v214 po dd lt pl f1s s2s tms 120 ((padr_apd (padr_apd (padr_apd (padr_apd hpad1 hw197) hw202) hw207) hw212).1)) (kcwV hts wd_ml_RL_41 wd_im_yX4_append wd_sel_yX4_append wd_ini_RX4 wd_code_yX4_append rfl rfl rfl hd_X4_append ⟨Nat.le_of_ble_eq_true rfl, Nat.le_of_ble_eq_true rfl⟩) ⟨in_blind, va_recv hK (pa_l (pa_r hPs)) (ci := 4) (q0 := 0) rfl rfl, k_pre hK (pa_l (pa_r hPs)) (da_l (da_r hDs)) hN⟩ rfl rfl hl.1 rfl (lv_room (Nat.le_of_ble_eq_true rfl)) dL_acts_409 ⟨Nat.le_of_ble_eq_true rfl, Nat.le_of_ble_eq_true rfl⟩) hPs hDs hS hA (fun r224 u225 H locs hw226 hP hD hS => ?_)
                    obtain ⟨f227, v228⟩ := u225
                    have hP := k_unP hP
                    have hD := k_unD hD
                    have hP : va_P D vwCl (DW cI cC cQ d0 n0 na s0 sa h1 h2 mm ma t0 p0 pa tk N S oo zz M0 M1 M2 M3 rs de pc pg f227 v228 po dd lt pl f1s s2s tms) H := hP
                    have hD : va_D A (DW cI cC cQ d0 n0 na s0 sa h1 h2 mm ma t0 p0 pa tk N S oo zz M0 M1 M2 M3 rs de pc pg f227 v228 po dd lt pl f1s s2s tms) := hD
                    have hw226 : (r224, f227, v228) = (sh_X4_append f213 v214 120) := hw226
                    have hq := kb_to hq hw226
                    refine lv_goto (tgt := 416) hx hb dL_acts_412 (by decide) ?_
                    refine lv_istore_n (lv' := [(3, .int r224), (5, .int (((x1 / 32) / 4) >>> ((5 * k4) &&& 31))), (4, .int k4), (2, .int (x1 / 32)), (0, .ref d0), (1, .int x1)]) hx hb dL_acts_416 rfl hl (by decide) rfl (fun ls hl => ?_)
                    refine lv_iload hx hb dL_acts_417 (lv_at hl 1 rfl) ?_
                    refine lv_bipush (v := 16) hx hb dL_acts_419 (by decide) ?_
                    refine lv_idiv hx hb dL_acts_421 (by decide) ?_
                    refine lv_iconst (v := 3) hx hb dL_acts_422 (by decide) ?_
                    refine lv_irem hx hb dL_acts_423 (by decide) ?_
                    refine lv_if_ne (tgt := 446) hx hb dL_acts_424 (by decide) (fun c229 => ?_) (fun c229 => ?_)
                    · have hq := it_neg hq c229
                      refine lv_iload_n hx hb dL_acts_446 rfl (lv_at hl 0 rfl) ?_
                      refine lv_istore_n (lv' := [(3, .int r224), (5, .int (((x1 / 32) / 4) >>> ((5 * k4) &&& 31))), (4, .int k4), (2, .int (x1 / 32)), (0, .ref d0), (1, .int x1)]) hx hb dL_acts_447 rfl hl (by decide) rfl (fun ls hl => ?_)
                      refine lv_goto (tgt := 535) hx hb dL_acts_448 (by decide) ?_
                      refine lv_iinc (v := (k4 + 1)) (lv' := [(4, .int (k4 + 1)), (3, .int r224), (5, .int (((x1 / 32) / 4) >>> ((5 * k4) &&& 31))), (2, .int (x1 / 32)), (0, .ref d0), (1, .int x1)]) hx hb dL_acts_535 hl (k := 2) rfl rfl (by decide) rfl (fun ls hl => ?_)
                      refine lv_goto (tgt := 248) hx hb dL_acts_538 (by decide) ?_
                      exact ih (r224) ((k4 + 1)) (f227) (v228) _ _ _ (k_mu hmu c127) ((padr_apd (padr_apd (padr_apd (padr_apd (padr_apd hpad1 hw197) hw202) hw207) hw212) hw226)) hq hP hD hS (lv_sub hl [0, 1, 3, 4, 5] rfl)
                    · have hq := it_pos hq c229
                      refine lv_aload_n hx hb dL_acts_427 rfl (lv_at hl 4 rfl) ?_
                      refine lv_bipush (v := 50) hx hb dL_acts_428 (by decide) ?_
                      refine lv_iload hx hb dL_acts_430 (lv_at hl 1 rfl) ?_
                      refine lv_sipush (v := 128) hx hb dL_acts_432 (by decide) ?_
                      refine lv_idiv hx hb dL_acts_435 (by decide) ?_
                      refine lv_bipush (v := 8) hx hb dL_acts_436 (by decide) ?_
                      refine lv_irem hx hb dL_acts_438 (by decide) ?_
                      refine lv_iadd hx hb dL_acts_439 ?_
                      have hPs := k_self hP
                      have hDs := k_selfD hD
                      refine k_behi (X := []) (Y := []) (va_runV (As := [.int (50 + (((((x1 / 32) / 4) >>> ((5 * k4) &&& 31)) / 128) - ((((x1 / 32) / 4) >>> ((5 * k4) &&& 31)) / 128) / 8 * 8))]) (rest := []) ⟨hx, hb, hml, hown, hts⟩ (c_X4_append l D cI cC cQ H.size d0 n0 na s0 sa h1 h2 mm ma t0 p0 pa tk N S oo zz M0 M1 M2 M3 rs de pc pg f227 v228 po dd lt pl f1s s2s tms (50 + (((((x1 / 32) / 4) >>> ((5 * k4) &&& 31)) / 128) - ((((x1 / 32) / 4) >>> ((5 * k4) &&& 31)) / 128) / 8 * 8)) ((padr_apd (padr_apd (padr_apd (padr_apd (padr_apd hpad1 hw197) hw202) hw207) hw212) hw226).1)) (kcwV hts wd_ml_RL_41 wd_im_yX4_append wd_sel_yX4_append wd_ini_RX4 wd_code_yX4_append rfl rfl rfl hd_X4_append ⟨Nat.le_of_ble_eq_true rfl, Nat.le_of_ble_eq_true rfl⟩) ⟨in_blind, va_recv hK (pa_l (pa_r hPs)) (ci := 4) (q0 := 0) rfl rfl, k_pre hK (pa_l (pa_r hPs)) (da_l (da_r hDs)) hN⟩ rfl rfl hl.1 rfl (lv_room (Nat.le_of_ble_eq_true rfl)) dL_acts_440 ⟨Nat.le_of_ble_eq_true rfl, Nat.le_of_ble_eq_true rfl⟩) hPs hDs hS hA (fun r230 u231 H locs hw232 hP hD hS => ?_)
                      obtain ⟨f233, v234⟩ := u231
                      have hP := k_unP hP
                      have hD := k_unD hD
                      have hP : va_P D vwCl (DW cI cC cQ d0 n0 na s0 sa h1 h2 mm ma t0 p0 pa tk N S oo zz M0 M1 M2 M3 rs de pc pg f233 v234 po dd lt pl f1s s2s tms) H := hP
                      have hD : va_D A (DW cI cC cQ d0 n0 na s0 sa h1 h2 mm ma t0 p0 pa tk N S oo zz M0 M1 M2 M3 rs de pc pg f233 v234 po dd lt pl f1s s2s tms) := hD
                      have hw232 : (r230, f233, v234) = (sh_X4_append f227 v228 (50 + (((((x1 / 32) / 4) >>> ((5 * k4) &&& 31)) / 128) - ((((x1 / 32) / 4) >>> ((5 * k4) &&& 31)) / 128) / 8 * 8))) := hw232
                      have hq := kb_to hq hw232
                      refine lv_goto (tgt := 447) hx hb dL_acts_443 (by decide) ?_
                      refine lv_istore_n (lv' := [(3, .int r230), (5, .int (((x1 / 32) / 4) >>> ((5 * k4) &&& 31))), (4, .int k4), (2, .int (x1 / 32)), (0, .ref d0), (1, .int x1)]) hx hb dL_acts_447 rfl hl (by decide) rfl (fun ls hl => ?_)
                      refine lv_goto (tgt := 535) hx hb dL_acts_448 (by decide) ?_
                      refine lv_iinc (v := (k4 + 1)) (lv' := [(4, .int (k4 + 1)), (3, .int r230), (5, .int (((x1 / 32) / 4) >>> ((5 * k4) &&& 31))), (2, .int (x1 / 32)), (0, .ref d0), (1, .int x1)]) hx hb dL_acts_535 hl (k := 2) rfl rfl (by decide) rfl (fun ls hl => ?_)
                      refine lv_goto (tgt := 248) hx hb dL_acts_538 (by decide) ?_
                      exact ih (r230) ((k4 + 1)) (f233) (v234) _ _ _ (k_mu hmu c127) ((padr_apd (padr_apd (padr_apd (padr_apd (padr_apd (padr_apd hpad1 hw197) hw202) hw207) hw212) hw226) hw232)) hq hP hD hS (lv_sub hl [0, 1, 3, 4, 5] rfl)
                · have hq := it_neg hq c216
                  refine lv_aload_n hx hb dL_acts_376 rfl (lv_at hl 4 rfl) ?_
                  refine lv_bipush (v := 48) hx hb dL_acts_377 (by decide) ?_
                  refine lv_iload hx hb dL_acts_379 (lv_at hl 1 rfl) ?_
                  refine lv_bipush (v := 64) hx hb dL_acts_381 (by decide) ?_
                  refine lv_idiv hx hb dL_acts_383 (by decide) ?_
                  refine lv_bipush (v := 10) hx hb dL_acts_384 (by decide) ?_
                  refine lv_irem hx hb dL_acts_386 (by decide) ?_
                  refine lv_iadd hx hb dL_acts_387 ?_
                  have hPs := k_self hP
                  have hDs := k_selfD hD
                  refine k_behi (X := []) (Y := []) (va_runV (As := [.int (48 + (((((x1 / 32) / 4) >>> ((5 * k4) &&& 31)) / 64) - ((((x1 / 32) / 4) >>> ((5 * k4) &&& 31)) / 64) / 10 * 10))]) (rest := []) ⟨hx, hb, hml, hown, hts⟩ (c_X4_append l D cI cC cQ H.size d0 n0 na s0 sa h1 h2 mm ma t0 p0 pa tk N S oo zz M0 M1 M2 M3 rs de pc pg f213 v214 po dd lt pl f1s s2s tms (48 + (((((x1 / 32) / 4) >>> ((5 * k4) &&& 31)) / 64) - ((((x1 / 32) / 4) >>> ((5 * k4) &&& 31)) / 64) / 10 * 10)) ((padr_apd (padr_apd (padr_apd (padr_apd hpad1 hw197) hw202) hw207) hw212).1)) (kcwV hts wd_ml_RL_41 wd_im_yX4_append wd_sel_yX4_append wd_ini_RX4 wd_code_yX4_append rfl rfl rfl hd_X4_append ⟨Nat.le_of_ble_eq_true rfl, Nat.le_of_ble_eq_true rfl⟩) ⟨in_blind, va_recv hK (pa_l (pa_r hPs)) (ci := 4) (q0 := 0) rfl rfl, k_pre hK (pa_l (pa_r hPs)) (da_l (da_r hDs)) hN⟩ rfl rfl hl.1 rfl (lv_room (Nat.le_of_ble_eq_true rfl)) dL_acts_388 ⟨Nat.le_of_ble_eq_true rfl, Nat.le_of_ble_eq_true rfl⟩) hPs hDs hS hA (fun r235 u236 H locs hw237 hP hD hS => ?_)
                  obtain ⟨f238, v239⟩ := u236
                  have hP := k_unP hP
                  have hD := k_unD hD
                  have hP : va_P D vwCl (DW cI cC cQ d0 n0 na s0 sa h1 h2 mm ma t0 p0 pa tk N S oo zz M0 M1 M2 M3 rs de pc pg f238 v239 po dd lt pl f1s s2s tms) H := hP
                  have hD : va_D A (DW cI cC cQ d0 n0 na s0 sa h1 h2 mm ma t0 p0 pa tk N S oo zz M0 M1 M2 M3 rs de pc pg f238 v239 po dd lt pl f1s s2s tms) := hD
                  have hw237 : (r235, f238, v239) = (sh_X4_append f213 v214 (48 + (((((x1 / 32) / 4) >>> ((5 * k4) &&& 31)) / 64) - ((((x1 / 32) / 4) >>> ((5 * k4) &&& 31)) / 64) / 10 * 10))) := hw237
                  have hq := kb_to hq hw237
                  refine lv_goto (tgt := 395) hx hb dL_acts_391 (by decide) ?_
                  refine lv_istore_n (lv' := [(3, .int r235), (5, .int (((x1 / 32) / 4) >>> ((5 * k4) &&& 31))), (4, .int k4), (2, .int (x1 / 32)), (0, .ref d0), (1, .int x1)]) hx hb dL_acts_395 rfl hl (by decide) rfl (fun ls hl => ?_)
                  refine lv_iload hx hb dL_acts_396 (lv_at hl 1 rfl) ?_
                  refine lv_bipush (v := 16) hx hb dL_acts_398 (by decide) ?_
                  refine lv_idiv hx hb dL_acts_400 (by decide) ?_
                  refine lv_iconst (v := 3) hx hb dL_acts_401 (by decide) ?_
                  refine lv_irem hx hb dL_acts_402 (by decide) ?_
                  refine lv_if_ne (tgt := 415) hx hb dL_acts_403 (by decide) (fun c240 => ?_) (fun c240 => ?_)
                  · have hq := it_neg hq c240
                    refine lv_iload_n hx hb dL_acts_415 rfl (lv_at hl 0 rfl) ?_
                    refine lv_istore_n (lv' := [(3, .int r235), (5, .int (((x1 / 32) / 4) >>> ((5 * k4) &&& 31))), (4, .int k4), (2, .int (x1 / 32)), (0, .ref d0), (1, .int x1)]) hx hb dL_acts_416 rfl hl (by decide) rfl (fun ls hl => ?_)
                    refine lv_iload hx hb dL_acts_417 (lv_at hl 1 rfl) ?_
                    refine lv_bipush (v := 16) hx hb dL_acts_419 (by decide) ?_
                    refine lv_idiv hx hb dL_acts_421 (by decide) ?_
                    refine lv_iconst (v := 3) hx hb dL_acts_422 (by decide) ?_
                    refine lv_irem hx hb dL_acts_423 (by decide) ?_
                    refine lv_if_ne (tgt := 446) hx hb dL_acts_424 (by decide) (fun c241 => ?_) (fun c241 => ?_)
                    · have hq := it_neg hq c241
                      refine lv_iload_n hx hb dL_acts_446 rfl (lv_at hl 0 rfl) ?_
                      refine lv_istore_n (lv' := [(3, .int r235), (5, .int (((x1 / 32) / 4) >>> ((5 * k4) &&& 31))), (4, .int k4), (2, .int (x1 / 32)), (0, .ref d0), (1, .int x1)]) hx hb dL_acts_447 rfl hl (by decide) rfl (fun ls hl => ?_)
                      refine lv_goto (tgt := 535) hx hb dL_acts_448 (by decide) ?_
                      refine lv_iinc (v := (k4 + 1)) (lv' := [(4, .int (k4 + 1)), (3, .int r235), (5, .int (((x1 / 32) / 4) >>> ((5 * k4) &&& 31))), (2, .int (x1 / 32)), (0, .ref d0), (1, .int x1)]) hx hb dL_acts_535 hl (k := 2) rfl rfl (by decide) rfl (fun ls hl => ?_)
                      refine lv_goto (tgt := 248) hx hb dL_acts_538 (by decide) ?_
                      exact ih (r235) ((k4 + 1)) (f238) (v239) _ _ _ (k_mu hmu c127) ((padr_apd (padr_apd (padr_apd (padr_apd (padr_apd hpad1 hw197) hw202) hw207) hw212) hw237)) hq hP hD hS (lv_sub hl [0, 1, 3, 4, 5] rfl)
                    · have hq := it_pos hq c241
                      refine lv_aload_n hx hb dL_acts_427 rfl (lv_at hl 4 rfl) ?_
                      refine lv_bipush (v := 50) hx hb dL_acts_428 (by decide) ?_
                      refine lv_iload hx hb dL_acts_430 (lv_at hl 1 rfl) ?_
                      refine lv_sipush (v := 128) hx hb dL_acts_432 (by decide) ?_
                      refine lv_idiv hx hb dL_acts_435 (by decide) ?_
                      refine lv_bipush (v := 8) hx hb dL_acts_436 (by decide) ?_
                      refine lv_irem hx hb dL_acts_438 (by decide) ?_
                      refine lv_iadd hx hb dL_acts_439 ?_
                      have hPs := k_self hP
                      have hDs := k_selfD hD
                      refine k_behi (X := []) (Y := []) (va_runV (As := [.int (50 + (((((x1 / 32) / 4) >>> ((5 * k4) &&& 31)) / 128) - ((((x1 / 32) / 4) >>> ((5 * k4) &&& 31)) / 128) / 8 * 8))]) (rest := []) ⟨hx, hb, hml, hown, hts⟩ (c_X4_append l D cI cC cQ H.size d0 n0 na s0 sa h1 h2 mm ma t0 p0 pa tk N S oo zz M0 M1 M2 M3 rs de pc pg f238 v239 po dd lt pl f1s s2s tms (50 + (((((x1 / 32) / 4) >>> ((5 * k4) &&& 31)) / 128) - ((((x1 / 32) / 4) >>> ((5 * k4) &&& 31)) / 128) / 8 * 8)) ((padr_apd (padr_apd (padr_apd (padr_apd (padr_apd hpad1 hw197) hw202) hw207) hw212) hw237).1)) (kcwV hts wd_ml_RL_41 wd_im_yX4_append wd_sel_yX4_append wd_ini_RX4 wd_code_yX4_append rfl rfl rfl hd_X4_append ⟨Nat.le_of_ble_eq_true rfl, Nat.le_of_ble_eq_true rfl⟩) ⟨in_blind, va_recv hK (pa_l (pa_r hPs)) (ci := 4) (q0 := 0) rfl rfl, k_pre hK (pa_l (pa_r hPs)) (da_l (da_r hDs)) hN⟩ rfl rfl hl.1 rfl (lv_room (Nat.le_of_ble_eq_true rfl)) dL_acts_440 ⟨Nat.le_of_ble_eq_true rfl, Nat.le_of_ble_eq_true rfl⟩) hPs hDs hS hA (fun r242 u243 H locs hw244 hP hD hS => ?_)
                      obtain ⟨f245, v246⟩ := u243
                      have hP := k_unP hP
                      have hD := k_unD hD
                      have hP : va_P D vwCl (DW cI cC cQ d0 n0 na s0 sa h1 h2 mm ma t0 p0 pa tk N S oo zz M0 M1 M2 M3 rs de pc pg f245 v246 po dd lt pl f1s s2s tms) H := hP
                      have hD : va_D A (DW cI cC cQ d0 n0 na s0 sa h1 h2 mm ma t0 p0 pa tk N S oo zz M0 M1 M2 M3 rs de pc pg f245 v246 po dd lt pl f1s s2s tms) := hD
                      have hw244 : (r242, f245, v246) = (sh_X4_append f238 v239 (50 + (((((x1 / 32) / 4) >>> ((5 * k4) &&& 31)) / 128) - ((((x1 / 32) / 4) >>> ((5 * k4) &&& 31)) / 128) / 8 * 8))) := hw244
                      have hq := kb_to hq hw244
                      refine lv_goto (tgt := 447) hx hb dL_acts_443 (by decide) ?_
                      refine lv_istore_n (lv' := [(3, .int r242), (5, .int (((x1 / 32) / 4) >>> ((5 * k4) &&& 31))), (4, .int k4), (2, .int (x1 / 32)), (0, .ref d0), (1, .int x1)]) hx hb dL_acts_447 rfl hl (by decide) rfl (fun ls hl => ?_)
                      refine lv_goto (tgt := 535) hx hb dL_acts_448 (by decide) ?_
                      refine lv_iinc (v := (k4 + 1)) (lv' := [(4, .int (k4 + 1)), (3, .int r242), (5, .int (((x1 / 32) / 4) >>> ((5 * k4) &&& 31))), (2, .int (x1 / 32)), (0, .ref d0), (1, .int x1)]) hx hb dL_acts_535 hl (k := 2) rfl rfl (by decide) rfl (fun ls hl => ?_)
                      refine lv_goto (tgt := 248) hx hb dL_acts_538 (by decide) ?_
                      exact ih (r242) ((k4 + 1)) (f245) (v246) _ _ _ (k_mu hmu c127) ((padr_apd (padr_apd (padr_apd (padr_apd (padr_apd (padr_apd hpad1 hw197) hw202) hw207) hw212) hw237) hw244)) hq hP hD hS (lv_sub hl [0, 1, 3, 4, 5] rfl)
                  · have hq := it_pos hq c240
                    refine lv_aload_n hx hb dL_acts_406 rfl (lv_at hl 4 rfl) ?_
                    refine lv_bipush (v := 120) hx hb dL_acts_407 (by decide) ?_
                    have hPs := k_self hP
                    have hDs := k_selfD hD
                    refine k_behi (X := []) (Y := []) (va_runV (As := [.int 120]) (rest := []) ⟨hx, hb, hml, hown, hts⟩ (c_X4_append l D cI cC cQ H.size d0 n0 na s0 sa h1 h2 mm ma t0 p0 pa tk N S oo zz M0 M1 M2 M3 rs de pc pg f238 v239 po dd lt pl f1s s2s tms 120 ((padr_apd (padr_apd (padr_apd (padr_apd (padr_apd hpad1 hw197) hw202) hw207) hw212) hw237).1)) (kcwV hts wd_ml_RL_41 wd_im_yX4_append wd_sel_yX4_append wd_ini_RX4 wd_code_yX4_append rfl rfl rfl hd_X4_append ⟨Nat.le_of_ble_eq_true rfl, Nat.le_of_ble_eq_true rfl⟩) ⟨in_blind, va_recv hK (pa_l (pa_r hPs)) (ci := 4) (q0 := 0) rfl rfl, k_pre hK (pa_l (pa_r hPs)) (da_l (da_r hDs)) hN⟩ rfl rfl hl.1 rfl (lv_room (Nat.le_of_ble_eq_true rfl)) dL_acts_409 ⟨Nat.le_of_ble_eq_true rfl, Nat.le_of_ble_eq_true rfl⟩) hPs hDs hS hA (fun r247 u248 H locs hw249 hP hD hS => ?_)
                    obtain ⟨f250, v251⟩ := u248
                    have hP := k_unP hP
                    have hD := k_unD hD
                    have hP : va_P D vwCl (DW cI cC cQ d0 n0 na s0 sa h1 h2 mm ma t0 p0 pa tk N S oo zz M0 M1 M2 M3 rs de pc pg f250 v251 po dd lt pl f1s s2s tms) H := hP
                    have hD : va_D A (DW cI cC cQ d0 n0 na s0 sa h1 h2 mm ma t0 p0 pa tk N S oo zz M0 M1 M2 M3 rs de pc pg f250 v251 po dd lt pl f1s s2s tms) := hD
                    have hw249 : (r247, f250, v251) = (sh_X4_append f238 v239 120) := hw249
                    have hq := kb_to hq hw249
                    refine lv_goto (tgt := 416) hx hb dL_acts_412 (by decide) ?_
                    refine lv_istore_n (lv' := [(3, .int r247), (5, .int (((x1 / 32) / 4) >>> ((5 * k4) &&& 31))), (4, .int k4), (2, .int (x1 / 32)), (0, .ref d0), (1, .int x1)]) hx hb dL_acts_416 rfl hl (by decide) rfl (fun ls hl => ?_)
                    refine lv_iload hx hb dL_acts_417 (lv_at hl 1 rfl) ?_
                    refine lv_bipush (v := 16) hx hb dL_acts_419 (by decide) ?_
                    refine lv_idiv hx hb dL_acts_421 (by decide) ?_
                    refine lv_iconst (v := 3) hx hb dL_acts_422 (by decide) ?_
                    refine lv_irem hx hb dL_acts_423 (by decide) ?_
                    refine lv_if_ne (tgt := 446) hx hb dL_acts_424 (by decide) (fun c252 => ?_) (fun c252 => ?_)
                    · have hq := it_neg hq c252
                      refine lv_iload_n hx hb dL_acts_446 rfl (lv_at hl 0 rfl) ?_
                      refine lv_istore_n (lv' := [(3, .int r247), (5, .int (((x1 / 32) / 4) >>> ((5 * k4) &&& 31))), (4, .int k4), (2, .int (x1 / 32)), (0, .ref d0), (1, .int x1)]) hx hb dL_acts_447 rfl hl (by decide) rfl (fun ls hl => ?_)
                      refine lv_goto (tgt := 535) hx hb dL_acts_448 (by decide) ?_
                      refine lv_iinc (v := (k4 + 1)) (lv' := [(4, .int (k4 + 1)), (3, .int r247), (5, .int (((x1 / 32) / 4) >>> ((5 * k4) &&& 31))), (2, .int (x1 / 32)), (0, .ref d0), (1, .int x1)]) hx hb dL_acts_535 hl (k := 2) rfl rfl (by decide) rfl (fun ls hl => ?_)
                      refine lv_goto (tgt := 248) hx hb dL_acts_538 (by decide) ?_
                      exact ih (r247) ((k4 + 1)) (f250) (v251) _ _ _ (k_mu hmu c127) ((padr_apd (padr_apd (padr_apd (padr_apd (padr_apd (padr_apd hpad1 hw197) hw202) hw207) hw212) hw237) hw249)) hq hP hD hS (lv_sub hl [0, 1, 3, 4, 5] rfl)
                    · have hq := it_pos hq c252
                      refine lv_aload_n hx hb dL_acts_427 rfl (lv_at hl 4 rfl) ?_
                      refine lv_bipush (v := 50) hx hb dL_acts_428 (by decide) ?_
                      refine lv_iload hx hb dL_acts_430 (lv_at hl 1 rfl) ?_
                      refine lv_sipush (v := 128) hx hb dL_acts_432 (by decide) ?_
                      refine lv_idiv hx hb dL_acts_435 (by decide) ?_
                      refine lv_bipush (v := 8) hx hb dL_acts_436 (by decide) ?_
                      refine lv_irem hx hb dL_acts_438 (by decide) ?_
                      refine lv_iadd hx hb dL_acts_439 ?_
                      have hPs := k_self hP
                      have hDs := k_selfD hD
                      refine k_behi (X := []) (Y := []) (va_runV (As := [.int (50 + (((((x1 / 32) / 4) >>> ((5 * k4) &&& 31)) / 128) - ((((x1 / 32) / 4) >>> ((5 * k4) &&& 31)) / 128) / 8 * 8))]) (rest := []) ⟨hx, hb, hml, hown, hts⟩ (c_X4_append l D cI cC cQ H.size d0 n0 na s0 sa h1 h2 mm ma t0 p0 pa tk N S oo zz M0 M1 M2 M3 rs de pc pg f250 v251 po dd lt pl f1s s2s tms (50 + (((((x1 / 32) / 4) >>> ((5 * k4) &&& 31)) / 128) - ((((x1 / 32) / 4) >>> ((5 * k4) &&& 31)) / 128) / 8 * 8)) ((padr_apd (padr_apd (padr_apd (padr_apd (padr_apd (padr_apd hpad1 hw197) hw202) hw207) hw212) hw237) hw249).1)) (kcwV hts wd_ml_RL_41 wd_im_yX4_append wd_sel_yX4_append wd_ini_RX4 wd_code_yX4_append rfl rfl rfl hd_X4_append ⟨Nat.le_of_ble_eq_true rfl, Nat.le_of_ble_eq_true rfl⟩) ⟨in_blind, va_recv hK (pa_l (pa_r hPs)) (ci := 4) (q0 := 0) rfl rfl, k_pre hK (pa_l (pa_r hPs)) (da_l (da_r hDs)) hN⟩ rfl rfl hl.1 rfl (lv_room (Nat.le_of_ble_eq_true rfl)) dL_acts_440 ⟨Nat.le_of_ble_eq_true rfl, Nat.le_of_ble_eq_true rfl⟩) hPs hDs hS hA (fun r253 u254 H locs hw255 hP hD hS => ?_)
                      obtain ⟨f256, v257⟩ := u254
                      have hP := k_unP hP
                      have hD := k_unD hD
                      have hP : va_P D vwCl (DW cI cC cQ d0 n0 na s0 sa h1 h2 mm ma t0 p0 pa tk N S oo zz M0 M1 M2 M3 rs de pc pg f256 v257 po dd lt pl f1s s2s tms) H := hP
                      have hD : va_D A (DW cI cC cQ d0 n0 na s0 sa h1 h2 mm ma t0 p0 pa tk N S oo zz M0 M1 M2 M3 rs de pc pg f256 v257 po dd lt pl f1s s2s tms) := hD
                      have hw255 : (r253, f256, v257) = (sh_X4_append f250 v251 (50 + (((((x1 / 32) / 4) >>> ((5 * k4) &&& 31)) / 128) - ((((x1 / 32) / 4) >>> ((5 * k4) &&& 31)) / 128) / 8 * 8))) := hw255
                      have hq := kb_to hq hw255
                      refine lv_goto (tgt := 447) hx hb dL_acts_443 (by decide) ?_
                      refine lv_istore_n (lv' := [(3, .int r253), (5, .int (((x1 / 32) / 4) >>> ((5 * k4) &&& 31))), (4, .int k4), (2, .int (x1 / 32)), (0, .ref d0), (1, .int x1)]) hx hb dL_acts_447 rfl hl (by decide) rfl (fun ls hl => ?_)
                      refine lv_goto (tgt := 535) hx hb dL_acts_448 (by decide) ?_
                      refine lv_iinc (v := (k4 + 1)) (lv' := [(4, .int (k4 + 1)), (3, .int r253), (5, .int (((x1 / 32) / 4) >>> ((5 * k4) &&& 31))), (2, .int (x1 / 32)), (0, .ref d0), (1, .int x1)]) hx hb dL_acts_535 hl (k := 2) rfl rfl (by decide) rfl (fun ls hl => ?_)
                      refine lv_goto (tgt := 248) hx hb dL_acts_538 (by decide) ?_
                      exact ih (r253) ((k4 + 1)) (f256) (v257) _ _ _ (k_mu hmu c127) ((padr_apd (padr_apd (padr_apd (padr_apd (padr_apd (padr_apd (padr_apd hpad1 hw197) hw202) hw207) hw212) hw237) hw249) hw255)) hq hP hD hS (lv_sub hl [0, 1, 3, 4, 5] rfl)
              · have hq := it_neg hq c215
                refine lv_aload_n hx hb dL_acts_347 rfl (lv_at hl 4 rfl) ?_
                refine lv_bipush (v := 48) hx hb dL_acts_348 (by decide) ?_
                refine lv_iload hx hb dL_acts_350 (lv_at hl 1 rfl) ?_
                refine lv_bipush (v := 32) hx hb dL_acts_352 (by decide) ?_
                refine lv_idiv hx hb dL_acts_354 (by decide) ?_
                refine lv_bipush (v := 10) hx hb dL_acts_355 (by decide) ?_
                refine lv_irem hx hb dL_acts_357 (by decide) ?_
                refine lv_iadd hx hb dL_acts_358 ?_
                have hPs := k_self hP
                have hDs := k_selfD hD
                refine k_behi (X := []) (Y := []) (va_runV (As := [.int (48 + (((((x1 / 32) / 4) >>> ((5 * k4) &&& 31)) / 32) - ((((x1 / 32) / 4) >>> ((5 * k4) &&& 31)) / 32) / 10 * 10))]) (rest := []) ⟨hx, hb, hml, hown, hts⟩ (c_X4_append l D cI cC cQ H.size d0 n0 na s0 sa h1 h2 mm ma t0 p0 pa tk N S oo zz M0 M1 M2 M3 rs de pc pg f213 v214 po dd lt pl f1s s2s tms (48 + (((((x1 / 32) / 4) >>> ((5 * k4) &&& 31)) / 32) - ((((x1 / 32) / 4) >>> ((5 * k4) &&& 31)) / 32) / 10 * 10)) ((padr_apd (padr_apd (padr_apd (padr_apd hpad1 hw197) hw202) hw207) hw212).1)) (kcwV hts wd_ml_RL_41 wd_im_yX4_append wd_sel_yX4_append wd_ini_RX4 wd_code_yX4_append rfl rfl rfl hd_X4_append ⟨Nat.le_of_ble_eq_true rfl, Nat.le_of_ble_eq_true rfl⟩) ⟨in_blind, va_recv hK (pa_l (pa_r hPs)) (ci := 4) (q0 := 0) rfl rfl, k_pre hK (pa_l (pa_r hPs)) (da_l (da_r hDs)) hN⟩ rfl rfl hl.1 rfl (lv_room (Nat.le_of_ble_eq_true rfl)) dL_acts_359 ⟨Nat.le_of_ble_eq_true rfl, Nat.le_of_ble_eq_true rfl⟩) hPs hDs hS hA (fun r258 u259 H locs hw260 hP hD hS => ?_)
                obtain ⟨f261, v262⟩ := u259
                have hP := k_unP hP
                have hD := k_unD hD
                have hP : va_P D vwCl (DW cI cC cQ d0 n0 na s0 sa h1 h2 mm ma t0 p0 pa tk N S oo zz M0 M1 M2 M3 rs de pc pg f261 v262 po dd lt pl f1s s2s tms) H := hP
                have hD : va_D A (DW cI cC cQ d0 n0 na s0 sa h1 h2 mm ma t0 p0 pa tk N S oo zz M0 M1 M2 M3 rs de pc pg f261 v262 po dd lt pl f1s s2s tms) := hD
                have hw260 : (r258, f261, v262) = (sh_X4_append f213 v214 (48 + (((((x1 / 32) / 4) >>> ((5 * k4) &&& 31)) / 32) - ((((x1 / 32) / 4) >>> ((5 * k4) &&& 31)) / 32) / 10 * 10))) := hw260
                have hq := kb_to hq hw260
                refine lv_goto (tgt := 366) hx hb dL_acts_362 (by decide) ?_
                refine lv_istore_n (lv' := [(3, .int r258), (5, .int (((x1 / 32) / 4) >>> ((5 * k4) &&& 31))), (4, .int k4), (2, .int (x1 / 32)), (0, .ref d0), (1, .int x1)]) hx hb dL_acts_366 rfl hl (by decide) rfl (fun ls hl => ?_)
                refine lv_iload hx hb dL_acts_367 (lv_at hl 1 rfl) ?_
                refine lv_bipush (v := 8) hx hb dL_acts_369 (by decide) ?_
                refine lv_irem hx hb dL_acts_371 (by decide) ?_
                refine lv_iconst (v := 1) hx hb dL_acts_372 (by decide) ?_
                refine lv_icmp_ge (tgt := 394) hx hb dL_acts_373 (by decide) (fun c263 => ?_) (fun c263 => ?_)
                · have hq := it_pos hq c263
                  refine lv_iload_n hx hb dL_acts_394 rfl (lv_at hl 0 rfl) ?_
                  refine lv_istore_n (lv' := [(3, .int r258), (5, .int (((x1 / 32) / 4) >>> ((5 * k4) &&& 31))), (4, .int k4), (2, .int (x1 / 32)), (0, .ref d0), (1, .int x1)]) hx hb dL_acts_395 rfl hl (by decide) rfl (fun ls hl => ?_)
                  refine lv_iload hx hb dL_acts_396 (lv_at hl 1 rfl) ?_
                  refine lv_bipush (v := 16) hx hb dL_acts_398 (by decide) ?_
                  refine lv_idiv hx hb dL_acts_400 (by decide) ?_
                  refine lv_iconst (v := 3) hx hb dL_acts_401 (by decide) ?_
                  refine lv_irem hx hb dL_acts_402 (by decide) ?_
                  refine lv_if_ne (tgt := 415) hx hb dL_acts_403 (by decide) (fun c264 => ?_) (fun c264 => ?_)
                  · have hq := it_neg hq c264
                    refine lv_iload_n hx hb dL_acts_415 rfl (lv_at hl 0 rfl) ?_
                    refine lv_istore_n (lv' := [(3, .int r258), (5, .int (((x1 / 32) / 4) >>> ((5 * k4) &&& 31))), (4, .int k4), (2, .int (x1 / 32)), (0, .ref d0), (1, .int x1)]) hx hb dL_acts_416 rfl hl (by decide) rfl (fun ls hl => ?_)
                    refine lv_iload hx hb dL_acts_417 (lv_at hl 1 rfl) ?_
                    refine lv_bipush (v := 16) hx hb dL_acts_419 (by decide) ?_
                    refine lv_idiv hx hb dL_acts_421 (by decide) ?_
                    refine lv_iconst (v := 3) hx hb dL_acts_422 (by decide) ?_
                    refine lv_irem hx hb dL_acts_423 (by decide) ?_
                    refine lv_if_ne (tgt := 446) hx hb dL_acts_424 (by decide) (fun c265 => ?_) (fun c265 => ?_)
                    · have hq := it_neg hq c265
                      refine lv_iload_n hx hb dL_acts_446 rfl (lv_at hl 0 rfl) ?_
                      refine lv_istore_n (lv' := [(3, .int r258), (5, .int (((x1 / 32) / 4) >>> ((5 * k4) &&& 31))), (4, .int k4), (2, .int (x1 / 32)), (0, .ref d0), (1, .int x1)]) hx hb dL_acts_447 rfl hl (by decide) rfl (fun ls hl => ?_)
                      refine lv_goto (tgt := 535) hx hb dL_acts_448 (by decide) ?_
                      refine lv_iinc (v := (k4 + 1)) (lv' := [(4, .int (k4 + 1)), (3, .int r258), (5, .int (((x1 / 32) / 4) >>> ((5 * k4) &&& 31))), (2, .int (x1 / 32)), (0, .ref d0), (1, .int x1)]) hx hb dL_acts_535 hl (k := 2) rfl rfl (by decide) rfl (fun ls hl => ?_)
                      refine lv_goto (tgt := 248) hx hb dL_acts_538 (by decide) ?_
                      exact ih (r258) ((k4 + 1)) (f261) (v262) _ _ _ (k_mu hmu c127) ((padr_apd (padr_apd (padr_apd (padr_apd (padr_apd hpad1 hw197) hw202) hw207) hw212) hw260)) hq hP hD hS (lv_sub hl [0, 1, 3, 4, 5] rfl)
                    · have hq := it_pos hq c265
                      refine lv_aload_n hx hb dL_acts_427 rfl (lv_at hl 4 rfl) ?_
                      refine lv_bipush (v := 50) hx hb dL_acts_428 (by decide) ?_
                      refine lv_iload hx hb dL_acts_430 (lv_at hl 1 rfl) ?_
                      refine lv_sipush (v := 128) hx hb dL_acts_432 (by decide) ?_
                      refine lv_idiv hx hb dL_acts_435 (by decide) ?_
                      refine lv_bipush (v := 8) hx hb dL_acts_436 (by decide) ?_
                      refine lv_irem hx hb dL_acts_438 (by decide) ?_
                      refine lv_iadd hx hb dL_acts_439 ?_
                      have hPs := k_self hP
                      have hDs := k_selfD hD
                      refine k_behi (X := []) (Y := []) (va_runV (As := [.int (50 + (((((x1 / 32) / 4) >>> ((5 * k4) &&& 31)) / 128) - ((((x1 / 32) / 4) >>> ((5 * k4) &&& 31)) / 128) / 8 * 8))]) (rest := []) ⟨hx, hb, hml, hown, hts⟩ (c_X4_append l D cI cC cQ H.size d0 n0 na s0 sa h1 h2 mm ma t0 p0 pa tk N S oo zz M0 M1 M2 M3 rs de pc pg f261 v262 po dd lt pl f1s s2s tms (50 + (((((x1 / 32) / 4) >>> ((5 * k4) &&& 31)) / 128) - ((((x1 / 32) / 4) >>> ((5 * k4) &&& 31)) / 128) / 8 * 8)) ((padr_apd (padr_apd (padr_apd (padr_apd (padr_apd hpad1 hw197) hw202) hw207) hw212) hw260).1)) (kcwV hts wd_ml_RL_41 wd_im_yX4_append wd_sel_yX4_append wd_ini_RX4 wd_code_yX4_append rfl rfl rfl hd_X4_append ⟨Nat.le_of_ble_eq_true rfl, Nat.le_of_ble_eq_true rfl⟩) ⟨in_blind, va_recv hK (pa_l (pa_r hPs)) (ci := 4) (q0 := 0) rfl rfl, k_pre hK (pa_l (pa_r hPs)) (da_l (da_r hDs)) hN⟩ rfl rfl hl.1 rfl (lv_room (Nat.le_of_ble_eq_true rfl)) dL_acts_440 ⟨Nat.le_of_ble_eq_true rfl, Nat.le_of_ble_eq_true rfl⟩) hPs hDs hS hA (fun r266 u267 H locs hw268 hP hD hS => ?_)
                      obtain ⟨f269, v270⟩ := u267
                      have hP := k_unP hP
                      have hD := k_unD hD
                      have hP : va_P D vwCl (DW cI cC cQ d0 n0 na s0 sa h1 h2 mm ma t0 p0 pa tk N S oo zz M0 M1 M2 M3 rs de pc pg f269 v270 po dd lt pl f1s s2s tms) H := hP
                      have hD : va_D A (DW cI cC cQ d0 n0 na s0 sa h1 h2 mm ma t0 p0 pa tk N S oo zz M0 M1 M2 M3 rs de pc pg f269 v270 po dd lt pl f1s s2s tms) := hD
                      have hw268 : (r266, f269, v270) = (sh_X4_append f261 v262 (50 + (((((x1 / 32) / 4) >>> ((5 * k4) &&& 31)) / 128) - ((((x1 / 32) / 4) >>> ((5 * k4) &&& 31)) / 128) / 8 * 8))) := hw268
                      have hq := kb_to hq hw268
                      refine lv_goto (tgt := 447) hx hb dL_acts_443 (by decide) ?_
                      refine lv_istore_n (lv' := [(3, .int r266), (5, .int (((x1 / 32) / 4) >>> ((5 * k4) &&& 31))), (4, .int k4), (2, .int (x1 / 32)), (0, .ref d0), (1, .int x1)]) hx hb dL_acts_447 rfl hl (by decide) rfl (fun ls hl => ?_)
                      refine lv_goto (tgt := 535) hx hb dL_acts_448 (by decide) ?_
                      refine lv_iinc (v := (k4 + 1)) (lv' := [(4, .int (k4 + 1)), (3, .int r266), (5, .int (((x1 / 32) / 4) >>> ((5 * k4) &&& 31))), (2, .int (x1 / 32)), (0, .ref d0), (1, .int x1)]) hx hb dL_acts_535 hl (k := 2) rfl rfl (by decide) rfl (fun ls hl => ?_)
                      refine lv_goto (tgt := 248) hx hb dL_acts_538 (by decide) ?_
                      exact ih (r266) ((k4 + 1)) (f269) (v270) _ _ _ (k_mu hmu c127) ((padr_apd (padr_apd (padr_apd (padr_apd (padr_apd (padr_apd hpad1 hw197) hw202) hw207) hw212) hw260) hw268)) hq hP hD hS (lv_sub hl [0, 1, 3, 4, 5] rfl)
                  · have hq := it_pos hq c264
                    refine lv_aload_n hx hb dL_acts_406 rfl (lv_at hl 4 rfl) ?_
                    refine lv_bipush (v := 120) hx hb dL_acts_407 (by decide) ?_
                    have hPs := k_self hP
                    have hDs := k_selfD hD
                    refine k_behi (X := []) (Y := []) (va_runV (As := [.int 120]) (rest := []) ⟨hx, hb, hml, hown, hts⟩ (c_X4_append l D cI cC cQ H.size d0 n0 na s0 sa h1 h2 mm ma t0 p0 pa tk N S oo zz M0 M1 M2 M3 rs de pc pg f261 v262 po dd lt pl f1s s2s tms 120 ((padr_apd (padr_apd (padr_apd (padr_apd (padr_apd hpad1 hw197) hw202) hw207) hw212) hw260).1)) (kcwV hts wd_ml_RL_41 wd_im_yX4_append wd_sel_yX4_append wd_ini_RX4 wd_code_yX4_append rfl rfl rfl hd_X4_append ⟨Nat.le_of_ble_eq_true rfl, Nat.le_of_ble_eq_true rfl⟩) ⟨in_blind, va_recv hK (pa_l (pa_r hPs)) (ci := 4) (q0 := 0) rfl rfl, k_pre hK (pa_l (pa_r hPs)) (da_l (da_r hDs)) hN⟩ rfl rfl hl.1 rfl (lv_room (Nat.le_of_ble_eq_true rfl)) dL_acts_409 ⟨Nat.le_of_ble_eq_true rfl, Nat.le_of_ble_eq_true rfl⟩) hPs hDs hS hA (fun r271 u272 H locs hw273 hP hD hS => ?_)
                    obtain ⟨f274, v275⟩ := u272
                    have hP := k_unP hP
                    have hD := k_unD hD
                    have hP : va_P D vwCl (DW cI cC cQ d0 n0 na s0 sa h1 h2 mm ma t0 p0 pa tk N S oo zz M0 M1 M2 M3 rs de pc pg f274 v275 po dd lt pl f1s s2s tms) H := hP
                    have hD : va_D A (DW cI cC cQ d0 n0 na s0 sa h1 h2 mm ma t0 p0 pa tk N S oo zz M0 M1 M2 M3 rs de pc pg f274 v275 po dd lt pl f1s s2s tms) := hD
                    have hw273 : (r271, f274, v275) = (sh_X4_append f261 v262 120) := hw273
                    have hq := kb_to hq hw273
                    refine lv_goto (tgt := 416) hx hb dL_acts_412 (by decide) ?_
                    refine lv_istore_n (lv' := [(3, .int r271), (5, .int (((x1 / 32) / 4) >>> ((5 * k4) &&& 31))), (4, .int k4), (2, .int (x1 / 32)), (0, .ref d0), (1, .int x1)]) hx hb dL_acts_416 rfl hl (by decide) rfl (fun ls hl => ?_)
                    refine lv_iload hx hb dL_acts_417 (lv_at hl 1 rfl) ?_
                    refine lv_bipush (v := 16) hx hb dL_acts_419 (by decide) ?_
                    refine lv_idiv hx hb dL_acts_421 (by decide) ?_
                    refine lv_iconst (v := 3) hx hb dL_acts_422 (by decide) ?_
                    refine lv_irem hx hb dL_acts_423 (by decide) ?_
                    refine lv_if_ne (tgt := 446) hx hb dL_acts_424 (by decide) (fun c276 => ?_) (fun c276 => ?_)
                    · have hq := it_neg hq c276
                      refine lv_iload_n hx hb dL_acts_446 rfl (lv_at hl 0 rfl) ?_
                      refine lv_istore_n (lv' := [(3, .int r271), (5, .int (((x1 / 32) / 4) >>> ((5 * k4) &&& 31))), (4, .int k4), (2, .int (x1 / 32)), (0, .ref d0), (1, .int x1)]) hx hb dL_acts_447 rfl hl (by decide) rfl (fun ls hl => ?_)
                      refine lv_goto (tgt := 535) hx hb dL_acts_448 (by decide) ?_
                      refine lv_iinc (v := (k4 + 1)) (lv' := [(4, .int (k4 + 1)), (3, .int r271), (5, .int (((x1 / 32) / 4) >>> ((5 * k4) &&& 31))), (2, .int (x1 / 32)), (0, .ref d0), (1, .int x1)]) hx hb dL_acts_535 hl (k := 2) rfl rfl (by decide) rfl (fun ls hl => ?_)
                      refine lv_goto (tgt := 248) hx hb dL_acts_538 (by decide) ?_
                      exact ih (r271) ((k4 + 1)) (f274) (v275) _ _ _ (k_mu hmu c127) ((padr_apd (padr_apd (padr_apd (padr_apd (padr_apd (padr_apd hpad1 hw197) hw202) hw207) hw212) hw260) hw273)) hq hP hD hS (lv_sub hl [0, 1, 3, 4, 5] rfl)
                    · have hq := it_pos hq c276
                      refine lv_aload_n hx hb dL_acts_427 rfl (lv_at hl 4 rfl) ?_
                      refine lv_bipush (v := 50) hx hb dL_acts_428 (by decide) ?_
                      refine lv_iload hx hb dL_acts_430 (lv_at hl 1 rfl) ?_
                      refine lv_sipush (v := 128) hx hb dL_acts_432 (by decide) ?_
                      refine lv_idiv hx hb dL_acts_435 (by decide) ?_
                      refine lv_bipush (v := 8) hx hb dL_acts_436 (by decide) ?_
                      refine lv_irem hx hb dL_acts_438 (by decide) ?_
                      refine lv_iadd hx hb dL_acts_439 ?_
                      have hPs := k_self hP
                      have hDs := k_selfD hD
                      refine k_behi (X := []) (Y := []) (va_runV (As := [.int (50 + (((((x1 / 32) / 4) >>> ((5 * k4) &&& 31)) / 128) - ((((x1 / 32) / 4) >>> ((5 * k4) &&& 31)) / 128) / 8 * 8))]) (rest := []) ⟨hx, hb, hml, hown, hts⟩ (c_X4_append l D cI cC cQ H.size d0 n0 na s0 sa h1 h2 mm ma t0 p0 pa tk N S oo zz M0 M1 M2 M3 rs de pc pg f274 v275 po dd lt pl f1s s2s tms (50 + (((((x1 / 32) / 4) >>> ((5 * k4) &&& 31)) / 128) - ((((x1 / 32) / 4) >>> ((5 * k4) &&& 31)) / 128) / 8 * 8)) ((padr_apd (padr_apd (padr_apd (padr_apd (padr_apd (padr_apd hpad1 hw197) hw202) hw207) hw212) hw260) hw273).1)) (kcwV hts wd_ml_RL_41 wd_im_yX4_append wd_sel_yX4_append wd_ini_RX4 wd_code_yX4_append rfl rfl rfl hd_X4_append ⟨Nat.le_of_ble_eq_true rfl, Nat.le_of_ble_eq_true rfl⟩) ⟨in_blind, va_recv hK (pa_l (pa_r hPs)) (ci := 4) (q0 := 0) rfl rfl, k_pre hK (pa_l (pa_r hPs)) (da_l (da_r hDs)) hN⟩ rfl rfl hl.1 rfl (lv_room (Nat.le_of_ble_eq_true rfl)) dL_acts_440 ⟨Nat.le_of_ble_eq_true rfl, Nat.le_of_ble_eq_true rfl⟩) hPs hDs hS hA (fun r277 u278 H locs hw279 hP hD hS => ?_)
                      obtain ⟨f280, v281⟩ := u278
                      have hP := k_unP hP
                      have hD := k_unD hD
                      have hP : va_P D vwCl (DW cI cC cQ d0 n0 na s0 sa h1 h2 mm ma t0 p0 pa tk N S oo zz M0 M1 M2 M3 rs de pc pg f280 v281 po dd lt pl f1s s2s tms) H := hP
                      have hD : va_D A (DW cI cC cQ d0 n0 na s0 sa h1 h2 mm ma t0 p0 pa tk N S oo zz M0 M1 M2 M3 rs de pc pg f280 v281 po dd lt pl f1s s2s tms) := hD
                      have hw279 : (r277, f280, v281) = (sh_X4_append f274 v275 (50 + (((((x1 / 32) / 4) >>> ((5 * k4) &&& 31)) / 128) - ((((x1 / 32) / 4) >>> ((5 * k4) &&& 31)) / 128) / 8 * 8))) := hw279
                      have hq := kb_to hq hw279
                      refine lv_goto (tgt := 447) hx hb dL_acts_443 (by decide) ?_
                      refine lv_istore_n (lv' := [(3, .int r277), (5, .int (((x1 / 32) / 4) >>> ((5 * k4) &&& 31))), (4, .int k4), (2, .int (x1 / 32)), (0, .ref d0), (1, .int x1)]) hx hb dL_acts_447 rfl hl (by decide) rfl (fun ls hl => ?_)
                      refine lv_goto (tgt := 535) hx hb dL_acts_448 (by decide) ?_
                      refine lv_iinc (v := (k4 + 1)) (lv' := [(4, .int (k4 + 1)), (3, .int r277), (5, .int (((x1 / 32) / 4) >>> ((5 * k4) &&& 31))), (2, .int (x1 / 32)), (0, .ref d0), (1, .int x1)]) hx hb dL_acts_535 hl (k := 2) rfl rfl (by decide) rfl (fun ls hl => ?_)
                      refine lv_goto (tgt := 248) hx hb dL_acts_538 (by decide) ?_
                      exact ih (r277) ((k4 + 1)) (f280) (v281) _ _ _ (k_mu hmu c127) ((padr_apd (padr_apd (padr_apd (padr_apd (padr_apd (padr_apd (padr_apd hpad1 hw197) hw202) hw207) hw212) hw260) hw273) hw279)) hq hP hD hS (lv_sub hl [0, 1, 3, 4, 5] rfl)
                · have hq := it_neg hq c263
                  refine lv_aload_n hx hb dL_acts_376 rfl (lv_at hl 4 rfl) ?_
                  refine lv_bipush (v := 48) hx hb dL_acts_377 (by decide) ?_
                  refine lv_iload hx hb dL_acts_379 (lv_at hl 1 rfl) ?_
                  refine lv_bipush (v := 64) hx hb dL_acts_381 (by decide) ?_
                  refine lv_idiv hx hb dL_acts_383 (by decide) ?_
                  refine lv_bipush (v := 10) hx hb dL_acts_384 (by decide) ?_
                  refine lv_irem hx hb dL_acts_386 (by decide) ?_
                  refine lv_iadd hx hb dL_acts_387 ?_
                  have hPs := k_self hP
                  have hDs := k_selfD hD
                  refine k_behi (X := []) (Y := []) (va_runV (As := [.int (48 + (((((x1 / 32) / 4) >>> ((5 * k4) &&& 31)) / 64) - ((((x1 / 32) / 4) >>> ((5 * k4) &&& 31)) / 64) / 10 * 10))]) (rest := []) ⟨hx, hb, hml, hown, hts⟩ (c_X4_append l D cI cC cQ H.size d0 n0 na s0 sa h1 h2 mm ma t0 p0 pa tk N S oo zz M0 M1 M2 M3 rs de pc pg f261 v262 po dd lt pl f1s s2s tms (48 + (((((x1 / 32) / 4) >>> ((5 * k4) &&& 31)) / 64) - ((((x1 / 32) / 4) >>> ((5 * k4) &&& 31)) / 64) / 10 * 10)) ((padr_apd (padr_apd (padr_apd (padr_apd (padr_apd hpad1 hw197) hw202) hw207) hw212) hw260).1)) (kcwV hts wd_ml_RL_41 wd_im_yX4_append wd_sel_yX4_append wd_ini_RX4 wd_code_yX4_append rfl rfl rfl hd_X4_append ⟨Nat.le_of_ble_eq_true rfl, Nat.le_of_ble_eq_true rfl⟩) ⟨in_blind, va_recv hK (pa_l (pa_r hPs)) (ci := 4) (q0 := 0) rfl rfl, k_pre hK (pa_l (pa_r hPs)) (da_l (da_r hDs)) hN⟩ rfl rfl hl.1 rfl (lv_room (Nat.le_of_ble_eq_true rfl)) dL_acts_388 ⟨Nat.le_of_ble_eq_true rfl, Nat.le_of_ble_eq_true rfl⟩) hPs hDs hS hA (fun r282 u283 H locs hw284 hP hD hS => ?_)
                  obtain ⟨f285, v286⟩ := u283
                  have hP := k_unP hP
                  have hD := k_unD hD
                  have hP : va_P D vwCl (DW cI cC cQ d0 n0 na s0 sa h1 h2 mm ma t0 p0 pa tk N S oo zz M0 M1 M2 M3 rs de pc pg f285 v286 po dd lt pl f1s s2s tms) H := hP
                  have hD : va_D A (DW cI cC cQ d0 n0 na s0 sa h1 h2 mm ma t0 p0 pa tk N S oo zz M0 M1 M2 M3 rs de pc pg f285 v286 po dd lt pl f1s s2s tms) := hD
                  have hw284 : (r282, f285, v286) = (sh_X4_append f261 v262 (48 + (((((x1 / 32) / 4) >>> ((5 * k4) &&& 31)) / 64) - ((((x1 / 32) / 4) >>> ((5 * k4) &&& 31)) / 64) / 10 * 10))) := hw284
                  have hq := kb_to hq hw284
                  refine lv_goto (tgt := 395) hx hb dL_acts_391 (by decide) ?_
                  refine lv_istore_n (lv' := [(3, .int r282), (5, .int (((x1 / 32) / 4) >>> ((5 * k4) &&& 31))), (4, .int k4), (2, .int (x1 / 32)), (0, .ref d0), (1, .int x1)]) hx hb dL_acts_395 rfl hl (by decide) rfl (fun ls hl => ?_)
                  refine lv_iload hx hb dL_acts_396 (lv_at hl 1 rfl) ?_
                  refine lv_bipush (v := 16) hx hb dL_acts_398 (by decide) ?_
                  refine lv_idiv hx hb dL_acts_400 (by decide) ?_
                  refine lv_iconst (v := 3) hx hb dL_acts_401 (by decide) ?_
                  refine lv_irem hx hb dL_acts_402 (by decide) ?_
                  refine lv_if_ne (tgt := 415) hx hb dL_acts_403 (by decide) (fun c287 => ?_) (fun c287 => ?_)
                  · have hq := it_neg hq c287
                    refine lv_iload_n hx hb dL_acts_415 rfl (lv_at hl 0 rfl) ?_
                    refine lv_istore_n (lv' := [(3, .int r282), (5, .int (((x1 / 32) / 4) >>> ((5 * k4) &&& 31))), (4, .int k4), (2, .int (x1 / 32)), (0, .ref d0), (1, .int x1)]) hx hb dL_acts_416 rfl hl (by decide) rfl (fun ls hl => ?_)
                    refine lv_iload hx hb dL_acts_417 (lv_at hl 1 rfl) ?_
                    refine lv_bipush (v := 16) hx hb dL_acts_419 (by decide) ?_
                    refine lv_idiv hx hb dL_acts_421 (by decide) ?_
                    refine lv_iconst (v := 3) hx hb dL_acts_422 (by decide) ?_
                    refine lv_irem hx hb dL_acts_423 (by decide) ?_
                    refine lv_if_ne (tgt := 446) hx hb dL_acts_424 (by decide) (fun c288 => ?_) (fun c288 => ?_)
                    · have hq := it_neg hq c288
                      refine lv_iload_n hx hb dL_acts_446 rfl (lv_at hl 0 rfl) ?_
                      refine lv_istore_n (lv' := [(3, .int r282), (5, .int (((x1 / 32) / 4) >>> ((5 * k4) &&& 31))), (4, .int k4), (2, .int (x1 / 32)), (0, .ref d0), (1, .int x1)]) hx hb dL_acts_447 rfl hl (by decide) rfl (fun ls hl => ?_)
                      refine lv_goto (tgt := 535) hx hb dL_acts_448 (by decide) ?_
                      refine lv_iinc (v := (k4 + 1)) (lv' := [(4, .int (k4 + 1)), (3, .int r282), (5, .int (((x1 / 32) / 4) >>> ((5 * k4) &&& 31))), (2, .int (x1 / 32)), (0, .ref d0), (1, .int x1)]) hx hb dL_acts_535 hl (k := 2) rfl rfl (by decide) rfl (fun ls hl => ?_)
                      refine lv_goto (tgt := 248) hx hb dL_acts_538 (by decide) ?_
                      exact ih (r282) ((k4 + 1)) (f285) (v286) _ _ _ (k_mu hmu c127) ((padr_apd (padr_apd (padr_apd (padr_apd (padr_apd (padr_apd hpad1 hw197) hw202) hw207) hw212) hw260) hw284)) hq hP hD hS (lv_sub hl [0, 1, 3, 4, 5] rfl)
                    · have hq := it_pos hq c288
                      refine lv_aload_n hx hb dL_acts_427 rfl (lv_at hl 4 rfl) ?_
                      refine lv_bipush (v := 50) hx hb dL_acts_428 (by decide) ?_
                      refine lv_iload hx hb dL_acts_430 (lv_at hl 1 rfl) ?_
                      refine lv_sipush (v := 128) hx hb dL_acts_432 (by decide) ?_
                      refine lv_idiv hx hb dL_acts_435 (by decide) ?_
                      refine lv_bipush (v := 8) hx hb dL_acts_436 (by decide) ?_
                      refine lv_irem hx hb dL_acts_438 (by decide) ?_
                      refine lv_iadd hx hb dL_acts_439 ?_
                      have hPs := k_self hP
                      have hDs := k_selfD hD
                      refine k_behi (X := []) (Y := []) (va_runV (As := [.int (50 + (((((x1 / 32) / 4) >>> ((5 * k4) &&& 31)) / 128) - ((((x1 / 32) / 4) >>> ((5 * k4) &&& 31)) / 128) / 8 * 8))]) (rest := []) ⟨hx, hb, hml, hown, hts⟩ (c_X4_append l D cI cC cQ H.size d0 n0 na s0 sa h1 h2 mm ma t0 p0 pa tk N S oo zz M0 M1 M2 M3 rs de pc pg f285 v286 po dd lt pl f1s s2s tms (50 + (((((x1 / 32) / 4) >>> ((5 * k4) &&& 31)) / 128) - ((((x1 / 32) / 4) >>> ((5 * k4) &&& 31)) / 128) / 8 * 8)) ((padr_apd (padr_apd (padr_apd (padr_apd (padr_apd (padr_apd hpad1 hw197) hw202) hw207) hw212) hw260) hw284).1)) (kcwV hts wd_ml_RL_41 wd_im_yX4_append wd_sel_yX4_append wd_ini_RX4 wd_code_yX4_append rfl rfl rfl hd_X4_append ⟨Nat.le_of_ble_eq_true rfl, Nat.le_of_ble_eq_true rfl⟩) ⟨in_blind, va_recv hK (pa_l (pa_r hPs)) (ci := 4) (q0 := 0) rfl rfl, k_pre hK (pa_l (pa_r hPs)) (da_l (da_r hDs)) hN⟩ rfl rfl hl.1 rfl (lv_room (Nat.le_of_ble_eq_true rfl)) dL_acts_440 ⟨Nat.le_of_ble_eq_true rfl, Nat.le_of_ble_eq_true rfl⟩) hPs hDs hS hA (fun r289 u290 H locs hw291 hP hD hS => ?_)
                      obtain ⟨f292, v293⟩ := u290
                      have hP := k_unP hP
                      have hD := k_unD hD
                      have hP : va_P D vwCl (DW cI cC cQ d0 n0 na s0 sa h1 h2 mm ma t0 p0 pa tk N S oo zz M0 M1 M2 M3 rs de pc pg f292 v293 po dd lt pl f1s s2s tms) H := hP
                      have hD : va_D A (DW cI cC cQ d0 n0 na s0 sa h1 h2 mm ma t0 p0 pa tk N S oo zz M0 M1 M2 M3 rs de pc pg f292 v293 po dd lt pl f1s s2s tms) := hD
                      have hw291 : (r289, f292, v293) = (sh_X4_append f285 v286 (50 + (((((x1 / 32) / 4) >>> ((5 * k4) &&& 31)) / 128) - ((((x1 / 32) / 4) >>> ((5 * k4) &&& 31)) / 128) / 8 * 8))) := hw291
                      have hq := kb_to hq hw291
                      refine lv_goto (tgt := 447) hx hb dL_acts_443 (by decide) ?_
                      refine lv_istore_n (lv' := [(3, .int r289), (5, .int (((x1 / 32) / 4) >>> ((5 * k4) &&& 31))), (4, .int k4), (2, .int (x1 / 32)), (0, .ref d0), (1, .int x1)]) hx hb dL_acts_447 rfl hl (by decide) rfl (fun ls hl => ?_)
                      refine lv_goto (tgt := 535) hx hb dL_acts_448 (by decide) ?_
                      refine lv_iinc (v := (k4 + 1)) (lv' := [(4, .int (k4 + 1)), (3, .int r289), (5, .int (((x1 / 32) / 4) >>> ((5 * k4) &&& 31))), (2, .int (x1 / 32)), (0, .ref d0), (1, .int x1)]) hx hb dL_acts_535 hl (k := 2) rfl rfl (by decide) rfl (fun ls hl => ?_)
                      refine lv_goto (tgt := 248) hx hb dL_acts_538 (by decide) ?_
                      exact ih (r289) ((k4 + 1)) (f292) (v293) _ _ _ (k_mu hmu c127) ((padr_apd (padr_apd (padr_apd (padr_apd (padr_apd (padr_apd (padr_apd hpad1 hw197) hw202) hw207) hw212) hw260) hw284) hw291)) hq hP hD hS (lv_sub hl [0, 1, 3, 4, 5] rfl)
                  · have hq := it_pos hq c287
                    refine lv_aload_n hx hb dL_acts_406 rfl (lv_at hl 4 rfl) ?_
                    refine lv_bipush (v := 120) hx hb dL_acts_407 (by decide) ?_
                    have hPs := k_self hP
                    have hDs := k_selfD hD
                    refine k_behi (X := []) (Y := []) (va_runV (As := [.int 120]) (rest := []) ⟨hx, hb, hml, hown, hts⟩ (c_X4_append l D cI cC cQ H.size d0 n0 na s0 sa h1 h2 mm ma t0 p0 pa tk N S oo zz M0 M1 M2 M3 rs de pc pg f285 v286 po dd lt pl f1s s2s tms 120 ((padr_apd (padr_apd (padr_apd (padr_apd (padr_apd (padr_apd hpad1 hw197) hw202) hw207) hw212) hw260) hw284).1)) (kcwV hts wd_ml_RL_41 wd_im_yX4_append wd_sel_yX4_append wd_ini_RX4 wd_code_yX4_append rfl rfl rfl hd_X4_append ⟨Nat.le_of_ble_eq_true rfl, Nat.le_of_ble_eq_true rfl⟩) ⟨in_blind, va_recv hK (pa_l (pa_r hPs)) (ci := 4) (q0 := 0) rfl rfl, k_pre hK (pa_l (pa_r hPs)) (da_l (da_r hDs)) hN⟩ rfl rfl hl.1 rfl (lv_room (Nat.le_of_ble_eq_true rfl)) dL_acts_409 ⟨Nat.le_of_ble_eq_true rfl, Nat.le_of_ble_eq_true rfl⟩) hPs hDs hS hA (fun r294 u295 H locs hw296 hP hD hS => ?_)
                    obtain ⟨f297, v298⟩ := u295
                    have hP := k_unP hP
                    have hD := k_unD hD
                    have hP : va_P D vwCl (DW cI cC cQ d0 n0 na s0 sa h1 h2 mm ma t0 p0 pa tk N S oo zz M0 M1 M2 M3 rs de pc pg f297 v298 po dd lt pl f1s s2s tms) H := hP
                    have hD : va_D A (DW cI cC cQ d0 n0 na s0 sa h1 h2 mm ma t0 p0 pa tk N S oo zz M0 M1 M2 M3 rs de pc pg f297 v298 po dd lt pl f1s s2s tms) := hD
                    have hw296 : (r294, f297, v298) = (sh_X4_append f285 v286 120) := hw296
                    have hq := kb_to hq hw296
                    refine lv_goto (tgt := 416) hx hb dL_acts_412 (by decide) ?_
                    refine lv_istore_n (lv' := [(3, .int r294), (5, .int (((x1 / 32) / 4) >>> ((5 * k4) &&& 31))), (4, .int k4), (2, .int (x1 / 32)), (0, .ref d0), (1, .int x1)]) hx hb dL_acts_416 rfl hl (by decide) rfl (fun ls hl => ?_)
                    refine lv_iload hx hb dL_acts_417 (lv_at hl 1 rfl) ?_
                    refine lv_bipush (v := 16) hx hb dL_acts_419 (by decide) ?_
                    refine lv_idiv hx hb dL_acts_421 (by decide) ?_
                    refine lv_iconst (v := 3) hx hb dL_acts_422 (by decide) ?_
                    refine lv_irem hx hb dL_acts_423 (by decide) ?_
                    refine lv_if_ne (tgt := 446) hx hb dL_acts_424 (by decide) (fun c299 => ?_) (fun c299 => ?_)
                    · have hq := it_neg hq c299
                      refine lv_iload_n hx hb dL_acts_446 rfl (lv_at hl 0 rfl) ?_
                      refine lv_istore_n (lv' := [(3, .int r294), (5, .int (((x1 / 32) / 4) >>> ((5 * k4) &&& 31))), (4, .int k4), (2, .int (x1 / 32)), (0, .ref d0), (1, .int x1)]) hx hb dL_acts_447 rfl hl (by decide) rfl (fun ls hl => ?_)
                      refine lv_goto (tgt := 535) hx hb dL_acts_448 (by decide) ?_
                      refine lv_iinc (v := (k4 + 1)) (lv' := [(4, .int (k4 + 1)), (3, .int r294), (5, .int (((x1 / 32) / 4) >>> ((5 * k4) &&& 31))), (2, .int (x1 / 32)), (0, .ref d0), (1, .int x1)]) hx hb dL_acts_535 hl (k := 2) rfl rfl (by decide) rfl (fun ls hl => ?_)
                      refine lv_goto (tgt := 248) hx hb dL_acts_538 (by decide) ?_
                      exact ih (r294) ((k4 + 1)) (f297) (v298) _ _ _ (k_mu hmu c127) ((padr_apd (padr_apd (padr_apd (padr_apd (padr_apd (padr_apd (padr_apd hpad1 hw197) hw202) hw207) hw212) hw260) hw284) hw296)) hq hP hD hS (lv_sub hl [0, 1, 3, 4, 5] rfl)
                    · have hq := it_pos hq c299
                      refine lv_aload_n hx hb dL_acts_427 rfl (lv_at hl 4 rfl) ?_
                      refine lv_bipush (v := 50) hx hb dL_acts_428 (by decide) ?_
                      refine lv_iload hx hb dL_acts_430 (lv_at hl 1 rfl) ?_
                      refine lv_sipush (v := 128) hx hb dL_acts_432 (by decide) ?_
                      refine lv_idiv hx hb dL_acts_435 (by decide) ?_
                      refine lv_bipush (v := 8) hx hb dL_acts_436 (by decide) ?_
                      refine lv_irem hx hb dL_acts_438 (by decide) ?_
                      refine lv_iadd hx hb dL_acts_439 ?_
                      have hPs := k_self hP
                      have hDs := k_selfD hD
                      refine k_behi (X := []) (Y := []) (va_runV (As := [.int (50 + (((((x1 / 32) / 4) >>> ((5 * k4) &&& 31)) / 128) - ((((x1 / 32) / 4) >>> ((5 * k4) &&& 31)) / 128) / 8 * 8))]) (rest := []) ⟨hx, hb, hml, hown, hts⟩ (c_X4_append l D cI cC cQ H.size d0 n0 na s0 sa h1 h2 mm ma t0 p0 pa tk N S oo zz M0 M1 M2 M3 rs de pc pg f297 v298 po dd lt pl f1s s2s tms (50 + (((((x1 / 32) / 4) >>> ((5 * k4) &&& 31)) / 128) - ((((x1 / 32) / 4) >>> ((5 * k4) &&& 31)) / 128) / 8 * 8)) ((padr_apd (padr_apd (padr_apd (padr_apd (padr_apd (padr_apd (padr_apd hpad1 hw197) hw202) hw207) hw212) hw260) hw284) hw296).1)) (kcwV hts wd_ml_RL_41 wd_im_yX4_append wd_sel_yX4_append wd_ini_RX4 wd_code_yX4_append rfl rfl rfl hd_X4_append ⟨Nat.le_of_ble_eq_true rfl, Nat.le_of_ble_eq_true rfl⟩) ⟨in_blind, va_recv hK (pa_l (pa_r hPs)) (ci := 4) (q0 := 0) rfl rfl, k_pre hK (pa_l (pa_r hPs)) (da_l (da_r hDs)) hN⟩ rfl rfl hl.1 rfl (lv_room (Nat.le_of_ble_eq_true rfl)) dL_acts_440 ⟨Nat.le_of_ble_eq_true rfl, Nat.le_of_ble_eq_true rfl⟩) hPs hDs hS hA (fun r300 u301 H locs hw302 hP hD hS => ?_)
                      obtain ⟨f303, v304⟩ := u301
                      have hP := k_unP hP
                      have hD := k_unD hD
                      have hP : va_P D vwCl (DW cI cC cQ d0 n0 na s0 sa h1 h2 mm ma t0 p0 pa tk N S oo zz M0 M1 M2 M3 rs de pc pg f303 v304 po dd lt pl f1s s2s tms) H := hP
                      have hD : va_D A (DW cI cC cQ d0 n0 na s0 sa h1 h2 mm ma t0 p0 pa tk N S oo zz M0 M1 M2 M3 rs de pc pg f303 v304 po dd lt pl f1s s2s tms) := hD
                      have hw302 : (r300, f303, v304) = (sh_X4_append f297 v298 (50 + (((((x1 / 32) / 4) >>> ((5 * k4) &&& 31)) / 128) - ((((x1 / 32) / 4) >>> ((5 * k4) &&& 31)) / 128) / 8 * 8))) := hw302
                      have hq := kb_to hq hw302
                      refine lv_goto (tgt := 447) hx hb dL_acts_443 (by decide) ?_
                      refine lv_istore_n (lv' := [(3, .int r300), (5, .int (((x1 / 32) / 4) >>> ((5 * k4) &&& 31))), (4, .int k4), (2, .int (x1 / 32)), (0, .ref d0), (1, .int x1)]) hx hb dL_acts_447 rfl hl (by decide) rfl (fun ls hl => ?_)
                      refine lv_goto (tgt := 535) hx hb dL_acts_448 (by decide) ?_
                      refine lv_iinc (v := (k4 + 1)) (lv' := [(4, .int (k4 + 1)), (3, .int r300), (5, .int (((x1 / 32) / 4) >>> ((5 * k4) &&& 31))), (2, .int (x1 / 32)), (0, .ref d0), (1, .int x1)]) hx hb dL_acts_535 hl (k := 2) rfl rfl (by decide) rfl (fun ls hl => ?_)
                      refine lv_goto (tgt := 248) hx hb dL_acts_538 (by decide) ?_
                      exact ih (r300) ((k4 + 1)) (f303) (v304) _ _ _ (k_mu hmu c127) ((padr_apd (padr_apd (padr_apd (padr_apd (padr_apd (padr_apd (padr_apd (padr_apd hpad1 hw197) hw202) hw207) hw212) hw260) hw284) hw296) hw302)) hq hP hD hS (lv_sub hl [0, 1, 3, 4, 5] rfl)
          · have hq := it_neg hq c162
            refine lv_aload_n hx hb dL_acts_273 rfl (lv_at hl 4 rfl) ?_
            refine lv_bipush (v := 59) hx hb dL_acts_274 (by decide) ?_
            have hPs := k_self hP
            have hDs := k_selfD hD
            refine k_behi (X := []) (Y := []) (va_runV (As := [.int 59]) (rest := []) ⟨hx, hb, hml, hown, hts⟩ (c_X4_append l D cI cC cQ H.size d0 n0 na s0 sa h1 h2 mm ma t0 p0 pa tk N S oo zz M0 M1 M2 M3 rs de pc pg l_sg l_ln po dd lt pl f1s s2s tms 59 (hpad1.1)) (kcwV hts wd_ml_RL_41 wd_im_yX4_append wd_sel_yX4_append wd_ini_RX4 wd_code_yX4_append rfl rfl rfl hd_X4_append ⟨Nat.le_of_ble_eq_true rfl, Nat.le_of_ble_eq_true rfl⟩) ⟨in_blind, va_recv hK (pa_l (pa_r hPs)) (ci := 4) (q0 := 0) rfl rfl, k_pre hK (pa_l (pa_r hPs)) (da_l (da_r hDs)) hN⟩ rfl rfl hl.1 rfl (lv_room (Nat.le_of_ble_eq_true rfl)) dL_acts_276 ⟨Nat.le_of_ble_eq_true rfl, Nat.le_of_ble_eq_true rfl⟩) hPs hDs hS hA (fun r305 u306 H locs hw307 hP hD hS => ?_)
            obtain ⟨f308, v309⟩ := u306
            have hP := k_unP hP
            have hD := k_unD hD
            have hP : va_P D vwCl (DW cI cC cQ d0 n0 na s0 sa h1 h2 mm ma t0 p0 pa tk N S oo zz M0 M1 M2 M3 rs de pc pg f308 v309 po dd lt pl f1s s2s tms) H := hP
            have hD : va_D A (DW cI cC cQ d0 n0 na s0 sa h1 h2 mm ma t0 p0 pa tk N S oo zz M0 M1 M2 M3 rs de pc pg f308 v309 po dd lt pl f1s s2s tms) := hD
            have hw307 : (r305, f308, v309) = (sh_X4_append l_sg l_ln 59) := hw307
            have hq := kb_to hq hw307
            refine lv_goto (tgt := 283) hx hb dL_acts_279 (by decide) ?_
            refine lv_istore_n (lv' := [(3, .int r305), (5, .int (((x1 / 32) / 4) >>> ((5 * k4) &&& 31))), (4, .int k4), (2, .int (x1 / 32)), (0, .ref d0), (1, .int x1)]) hx hb dL_acts_283 rfl hl (by decide) rfl (fun ls hl => ?_)
            refine lv_iload hx hb dL_acts_284 (lv_at hl 1 rfl) ?_
            refine lv_bipush (v := 8) hx hb dL_acts_286 (by decide) ?_
            refine lv_irem hx hb dL_acts_288 (by decide) ?_
            refine lv_iconst (v := 5) hx hb dL_acts_289 (by decide) ?_
            refine lv_icmp_ge (tgt := 451) hx hb dL_acts_290 (by decide) (fun c310 => ?_) (fun c310 => ?_)
            · have hq := it_pos hq c310
              refine lv_aload_n hx hb dL_acts_451 rfl (lv_at hl 4 rfl) ?_
              refine lv_iload hx hb dL_acts_452 (lv_at hl 1 rfl) ?_
              refine lv_bipush (v := 8) hx hb dL_acts_454 (by decide) ?_
              refine lv_irem hx hb dL_acts_456 (by decide) ?_
              refine lv_iconst (v := 5) hx hb dL_acts_457 (by decide) ?_
              have K : ∀ (v313 : Int32) (H : Heap) (locs : List Loc) (ls : Array Slot), v313 = (if ((((x1 / 32) / 4) >>> ((5 * k4) &&& 31)) - (((x1 / 32) / 4) >>> ((5 * k4) &&& 31)) / 8 * 8) = 5 then 115 else 109) → va_P D vwCl (DW cI cC cQ d0 n0 na s0 sa h1 h2 mm ma t0 p0 pa tk N S oo zz M0 M1 M2 M3 rs de pc pg f308 v309 po dd lt pl f1s s2s tms) H → va_D A (DW cI cC cQ d0 n0 na s0 sa h1 h2 mm ma t0 p0 pa tk N S oo zz M0 M1 M2 M3 rs de pc pg f308 v309 po dd lt pl f1s s2s tms) → va_S A s.heap H locs → lv_has ls 6 [(0, .ref d0), (1, .int x1), (2, .int (x1 / 32)), (3, .int r305), (4, .int k4), (5, .int (((x1 / 32) / 4) >>> ((5 * k4) &&& 31)))] → W p l e rm_L_acts s m args below meth c H locs 0 0 Q (F0 m 468 ls [.int v313, .ref d0]) := by
                intro v313 H locs ls hv312 hP hD hS hl
                have hq := kb_to hq hv312
                have hPs := k_self hP
                have hDs := k_selfD hD
                refine k_behi (X := []) (Y := []) (va_runV (As := [.int v313]) (rest := []) ⟨hx, hb, hml, hown, hts⟩ (c_X4_append l D cI cC cQ H.size d0 n0 na s0 sa h1 h2 mm ma t0 p0 pa tk N S oo zz M0 M1 M2 M3 rs de pc pg f308 v309 po dd lt pl f1s s2s tms v313 ((padr_apd hpad1 hw307).1)) (kcwV hts wd_ml_RL_41 wd_im_yX4_append wd_sel_yX4_append wd_ini_RX4 wd_code_yX4_append rfl rfl rfl hd_X4_append ⟨Nat.le_of_ble_eq_true rfl, Nat.le_of_ble_eq_true rfl⟩) ⟨in_blind, va_recv hK (pa_l (pa_r hPs)) (ci := 4) (q0 := 0) rfl rfl, k_pre hK (pa_l (pa_r hPs)) (da_l (da_r hDs)) hN⟩ rfl rfl hl.1 rfl (lv_room (Nat.le_of_ble_eq_true rfl)) dL_acts_468 ⟨Nat.le_of_ble_eq_true rfl, Nat.le_of_ble_eq_true rfl⟩) hPs hDs hS hA (fun r314 u315 H locs hw316 hP hD hS => ?_)
                obtain ⟨f317, v318⟩ := u315
                have hP := k_unP hP
                have hD := k_unD hD
                have hP : va_P D vwCl (DW cI cC cQ d0 n0 na s0 sa h1 h2 mm ma t0 p0 pa tk N S oo zz M0 M1 M2 M3 rs de pc pg f317 v318 po dd lt pl f1s s2s tms) H := hP
                have hD : va_D A (DW cI cC cQ d0 n0 na s0 sa h1 h2 mm ma t0 p0 pa tk N S oo zz M0 M1 M2 M3 rs de pc pg f317 v318 po dd lt pl f1s s2s tms) := hD
                have hw316 : (r314, f317, v318) = (sh_X4_append f308 v309 v313) := hw316
                have hq := kb_to hq hw316
                refine lv_istore_n (lv' := [(3, .int r314), (0, .ref d0), (1, .int x1), (2, .int (x1 / 32)), (4, .int k4), (5, .int (((x1 / 32) / 4) >>> ((5 * k4) &&& 31)))]) hx hb dL_acts_471 rfl hl (by decide) rfl (fun ls hl => ?_)
                refine lv_aload_n hx hb dL_acts_472 rfl (lv_at hl 1 rfl) ?_
                refine lv_bipush (v := 48) hx hb dL_acts_473 (by decide) ?_
                refine lv_iload hx hb dL_acts_475 (lv_at hl 5 rfl) ?_
                refine lv_bipush (v := 8) hx hb dL_acts_477 (by decide) ?_
                refine lv_idiv hx hb dL_acts_479 (by decide) ?_
                refine lv_iconst (v := 4) hx hb dL_acts_480 (by decide) ?_
                refine lv_irem hx hb dL_acts_481 (by decide) ?_
                refine lv_iadd hx hb dL_acts_482 ?_
                have hPs := k_self hP
                have hDs := k_selfD hD
                refine k_behi (X := []) (Y := []) (va_runV (As := [.int (48 + (((((x1 / 32) / 4) >>> ((5 * k4) &&& 31)) / 8) - ((((x1 / 32) / 4) >>> ((5 * k4) &&& 31)) / 8) / 4 * 4))]) (rest := []) ⟨hx, hb, hml, hown, hts⟩ (c_X4_append l D cI cC cQ H.size d0 n0 na s0 sa h1 h2 mm ma t0 p0 pa tk N S oo zz M0 M1 M2 M3 rs de pc pg f317 v318 po dd lt pl f1s s2s tms (48 + (((((x1 / 32) / 4) >>> ((5 * k4) &&& 31)) / 8) - ((((x1 / 32) / 4) >>> ((5 * k4) &&& 31)) / 8) / 4 * 4)) ((padr_apd (padr_apd hpad1 hw307) hw316).1)) (kcwV hts wd_ml_RL_41 wd_im_yX4_append wd_sel_yX4_append wd_ini_RX4 wd_code_yX4_append rfl rfl rfl hd_X4_append ⟨Nat.le_of_ble_eq_true rfl, Nat.le_of_ble_eq_true rfl⟩) ⟨in_blind, va_recv hK (pa_l (pa_r hPs)) (ci := 4) (q0 := 0) rfl rfl, k_pre hK (pa_l (pa_r hPs)) (da_l (da_r hDs)) hN⟩ rfl rfl hl.1 rfl (lv_room (Nat.le_of_ble_eq_true rfl)) dL_acts_483 ⟨Nat.le_of_ble_eq_true rfl, Nat.le_of_ble_eq_true rfl⟩) hPs hDs hS hA (fun r319 u320 H locs hw321 hP hD hS => ?_)
                obtain ⟨f322, v323⟩ := u320
                have hP := k_unP hP
                have hD := k_unD hD
                have hP : va_P D vwCl (DW cI cC cQ d0 n0 na s0 sa h1 h2 mm ma t0 p0 pa tk N S oo zz M0 M1 M2 M3 rs de pc pg f322 v323 po dd lt pl f1s s2s tms) H := hP
                have hD : va_D A (DW cI cC cQ d0 n0 na s0 sa h1 h2 mm ma t0 p0 pa tk N S oo zz M0 M1 M2 M3 rs de pc pg f322 v323 po dd lt pl f1s s2s tms) := hD
                have hw321 : (r319, f322, v323) = (sh_X4_append f317 v318 (48 + (((((x1 / 32) / 4) >>> ((5 * k4) &&& 31)) / 8) - ((((x1 / 32) / 4) >>> ((5 * k4) &&& 31)) / 8) / 4 * 4))) := hw321
                have hq := kb_to hq hw321
                refine lv_istore_n (lv' := [(3, .int r319), (0, .ref d0), (1, .int x1), (2, .int (x1 / 32)), (4, .int k4), (5, .int (((x1 / 32) / 4) >>> ((5 * k4) &&& 31)))]) hx hb dL_acts_486 rfl hl (by decide) rfl (fun ls hl => ?_)
                refine lv_iload hx hb dL_acts_487 (lv_at hl 5 rfl) ?_
                refine lv_bipush (v := 8) hx hb dL_acts_489 (by decide) ?_
                refine lv_irem hx hb dL_acts_491 (by decide) ?_
                refine lv_iconst (v := 5) hx hb dL_acts_492 (by decide) ?_
                refine lv_icmp_le (tgt := 505) hx hb dL_acts_493 (by decide) (fun c324 => ?_) (fun c324 => ?_)
                · have hq := it_pos hq c324
                  refine lv_iload_n hx hb dL_acts_505 rfl (lv_at hl 0 rfl) ?_
                  refine lv_istore_n (lv' := [(3, .int r319), (0, .ref d0), (1, .int x1), (2, .int (x1 / 32)), (4, .int k4), (5, .int (((x1 / 32) / 4) >>> ((5 * k4) &&& 31)))]) hx hb dL_acts_506 rfl hl (by decide) rfl (fun ls hl => ?_)
                  refine lv_iload hx hb dL_acts_507 (lv_at hl 5 rfl) ?_
                  refine lv_bipush (v := 8) hx hb dL_acts_509 (by decide) ?_
                  refine lv_irem hx hb dL_acts_511 (by decide) ?_
                  refine lv_iconst (v := 5) hx hb dL_acts_512 (by decide) ?_
                  refine lv_icmp_le (tgt := 533) hx hb dL_acts_513 (by decide) (fun c325 => ?_) (fun c325 => ?_)
                  · have hq := it_pos hq c325
                    refine lv_iload_n hx hb dL_acts_533 rfl (lv_at hl 0 rfl) ?_
                    refine lv_istore_n (lv' := [(3, .int r319), (0, .ref d0), (1, .int x1), (2, .int (x1 / 32)), (4, .int k4), (5, .int (((x1 / 32) / 4) >>> ((5 * k4) &&& 31)))]) hx hb dL_acts_534 rfl hl (by decide) rfl (fun ls hl => ?_)
                    refine lv_iinc (v := (k4 + 1)) (lv' := [(4, .int (k4 + 1)), (3, .int r319), (0, .ref d0), (1, .int x1), (2, .int (x1 / 32)), (5, .int (((x1 / 32) / 4) >>> ((5 * k4) &&& 31)))]) hx hb dL_acts_535 hl (k := 4) rfl rfl (by decide) rfl (fun ls hl => ?_)
                    refine lv_goto (tgt := 248) hx hb dL_acts_538 (by decide) ?_
                    exact ih (r319) ((k4 + 1)) (f322) (v323) _ _ _ (k_mu hmu c127) ((padr_apd (padr_apd (padr_apd hpad1 hw307) hw316) hw321)) hq hP hD hS (lv_sub hl [0, 1, 4, 2, 3] rfl)
                  · have hq := it_neg hq c325
                    refine lv_aload_n hx hb dL_acts_516 rfl (lv_at hl 1 rfl) ?_
                    refine lv_bipush (v := 48) hx hb dL_acts_517 (by decide) ?_
                    refine lv_iload hx hb dL_acts_519 (lv_at hl 5 rfl) ?_
                    refine lv_bipush (v := 32) hx hb dL_acts_521 (by decide) ?_
                    refine lv_idiv hx hb dL_acts_523 (by decide) ?_
                    refine lv_iconst (v := 2) hx hb dL_acts_524 (by decide) ?_
                    refine lv_irem hx hb dL_acts_525 (by decide) ?_
                    refine lv_iadd hx hb dL_acts_526 ?_
                    have hPs := k_self hP
                    have hDs := k_selfD hD
                    refine k_behi (X := []) (Y := []) (va_runV (As := [.int (48 + (((((x1 / 32) / 4) >>> ((5 * k4) &&& 31)) / 32) - ((((x1 / 32) / 4) >>> ((5 * k4) &&& 31)) / 32) / 2 * 2))]) (rest := []) ⟨hx, hb, hml, hown, hts⟩ (c_X4_append l D cI cC cQ H.size d0 n0 na s0 sa h1 h2 mm ma t0 p0 pa tk N S oo zz M0 M1 M2 M3 rs de pc pg f322 v323 po dd lt pl f1s s2s tms (48 + (((((x1 / 32) / 4) >>> ((5 * k4) &&& 31)) / 32) - ((((x1 / 32) / 4) >>> ((5 * k4) &&& 31)) / 32) / 2 * 2)) ((padr_apd (padr_apd (padr_apd hpad1 hw307) hw316) hw321).1)) (kcwV hts wd_ml_RL_41 wd_im_yX4_append wd_sel_yX4_append wd_ini_RX4 wd_code_yX4_append rfl rfl rfl hd_X4_append ⟨Nat.le_of_ble_eq_true rfl, Nat.le_of_ble_eq_true rfl⟩) ⟨in_blind, va_recv hK (pa_l (pa_r hPs)) (ci := 4) (q0 := 0) rfl rfl, k_pre hK (pa_l (pa_r hPs)) (da_l (da_r hDs)) hN⟩ rfl rfl hl.1 rfl (lv_room (Nat.le_of_ble_eq_true rfl)) dL_acts_527 ⟨Nat.le_of_ble_eq_true rfl, Nat.le_of_ble_eq_true rfl⟩) hPs hDs hS hA (fun r326 u327 H locs hw328 hP hD hS => ?_)
                    obtain ⟨f329, v330⟩ := u327
                    have hP := k_unP hP
                    have hD := k_unD hD
                    have hP : va_P D vwCl (DW cI cC cQ d0 n0 na s0 sa h1 h2 mm ma t0 p0 pa tk N S oo zz M0 M1 M2 M3 rs de pc pg f329 v330 po dd lt pl f1s s2s tms) H := hP
                    have hD : va_D A (DW cI cC cQ d0 n0 na s0 sa h1 h2 mm ma t0 p0 pa tk N S oo zz M0 M1 M2 M3 rs de pc pg f329 v330 po dd lt pl f1s s2s tms) := hD
                    have hw328 : (r326, f329, v330) = (sh_X4_append f322 v323 (48 + (((((x1 / 32) / 4) >>> ((5 * k4) &&& 31)) / 32) - ((((x1 / 32) / 4) >>> ((5 * k4) &&& 31)) / 32) / 2 * 2))) := hw328
                    have hq := kb_to hq hw328
                    refine lv_goto (tgt := 534) hx hb dL_acts_530 (by decide) ?_
                    refine lv_istore_n (lv' := [(3, .int r326), (0, .ref d0), (1, .int x1), (2, .int (x1 / 32)), (4, .int k4), (5, .int (((x1 / 32) / 4) >>> ((5 * k4) &&& 31)))]) hx hb dL_acts_534 rfl hl (by decide) rfl (fun ls hl => ?_)
                    refine lv_iinc (v := (k4 + 1)) (lv' := [(4, .int (k4 + 1)), (3, .int r326), (0, .ref d0), (1, .int x1), (2, .int (x1 / 32)), (5, .int (((x1 / 32) / 4) >>> ((5 * k4) &&& 31)))]) hx hb dL_acts_535 hl (k := 4) rfl rfl (by decide) rfl (fun ls hl => ?_)
                    refine lv_goto (tgt := 248) hx hb dL_acts_538 (by decide) ?_
                    exact ih (r326) ((k4 + 1)) (f329) (v330) _ _ _ (k_mu hmu c127) ((padr_apd (padr_apd (padr_apd (padr_apd hpad1 hw307) hw316) hw321) hw328)) hq hP hD hS (lv_sub hl [0, 1, 4, 2, 3] rfl)
                · have hq := it_neg hq c324
                  refine lv_aload_n hx hb dL_acts_496 rfl (lv_at hl 1 rfl) ?_
                  refine lv_bipush (v := 62) hx hb dL_acts_497 (by decide) ?_
                  have hPs := k_self hP
                  have hDs := k_selfD hD
                  refine k_behi (X := []) (Y := []) (va_runV (As := [.int 62]) (rest := []) ⟨hx, hb, hml, hown, hts⟩ (c_X4_append l D cI cC cQ H.size d0 n0 na s0 sa h1 h2 mm ma t0 p0 pa tk N S oo zz M0 M1 M2 M3 rs de pc pg f322 v323 po dd lt pl f1s s2s tms 62 ((padr_apd (padr_apd (padr_apd hpad1 hw307) hw316) hw321).1)) (kcwV hts wd_ml_RL_41 wd_im_yX4_append wd_sel_yX4_append wd_ini_RX4 wd_code_yX4_append rfl rfl rfl hd_X4_append ⟨Nat.le_of_ble_eq_true rfl, Nat.le_of_ble_eq_true rfl⟩) ⟨in_blind, va_recv hK (pa_l (pa_r hPs)) (ci := 4) (q0 := 0) rfl rfl, k_pre hK (pa_l (pa_r hPs)) (da_l (da_r hDs)) hN⟩ rfl rfl hl.1 rfl (lv_room (Nat.le_of_ble_eq_true rfl)) dL_acts_499 ⟨Nat.le_of_ble_eq_true rfl, Nat.le_of_ble_eq_true rfl⟩) hPs hDs hS hA (fun r331 u332 H locs hw333 hP hD hS => ?_)
                  obtain ⟨f334, v335⟩ := u332
                  have hP := k_unP hP
                  have hD := k_unD hD
                  have hP : va_P D vwCl (DW cI cC cQ d0 n0 na s0 sa h1 h2 mm ma t0 p0 pa tk N S oo zz M0 M1 M2 M3 rs de pc pg f334 v335 po dd lt pl f1s s2s tms) H := hP
                  have hD : va_D A (DW cI cC cQ d0 n0 na s0 sa h1 h2 mm ma t0 p0 pa tk N S oo zz M0 M1 M2 M3 rs de pc pg f334 v335 po dd lt pl f1s s2s tms) := hD
                  have hw333 : (r331, f334, v335) = (sh_X4_append f322 v323 62) := hw333
                  have hq := kb_to hq hw333
                  refine lv_goto (tgt := 506) hx hb dL_acts_502 (by decide) ?_
                  refine lv_istore_n (lv' := [(3, .int r331), (0, .ref d0), (1, .int x1), (2, .int (x1 / 32)), (4, .int k4), (5, .int (((x1 / 32) / 4) >>> ((5 * k4) &&& 31)))]) hx hb dL_acts_506 rfl hl (by decide) rfl (fun ls hl => ?_)
                  refine lv_iload hx hb dL_acts_507 (lv_at hl 5 rfl) ?_
                  refine lv_bipush (v := 8) hx hb dL_acts_509 (by decide) ?_
                  refine lv_irem hx hb dL_acts_511 (by decide) ?_
                  refine lv_iconst (v := 5) hx hb dL_acts_512 (by decide) ?_
                  refine lv_icmp_le (tgt := 533) hx hb dL_acts_513 (by decide) (fun c336 => ?_) (fun c336 => ?_)
                  · have hq := it_pos hq c336
                    refine lv_iload_n hx hb dL_acts_533 rfl (lv_at hl 0 rfl) ?_
                    refine lv_istore_n (lv' := [(3, .int r331), (0, .ref d0), (1, .int x1), (2, .int (x1 / 32)), (4, .int k4), (5, .int (((x1 / 32) / 4) >>> ((5 * k4) &&& 31)))]) hx hb dL_acts_534 rfl hl (by decide) rfl (fun ls hl => ?_)
                    refine lv_iinc (v := (k4 + 1)) (lv' := [(4, .int (k4 + 1)), (3, .int r331), (0, .ref d0), (1, .int x1), (2, .int (x1 / 32)), (5, .int (((x1 / 32) / 4) >>> ((5 * k4) &&& 31)))]) hx hb dL_acts_535 hl (k := 4) rfl rfl (by decide) rfl (fun ls hl => ?_)
                    refine lv_goto (tgt := 248) hx hb dL_acts_538 (by decide) ?_
                    exact ih (r331) ((k4 + 1)) (f334) (v335) _ _ _ (k_mu hmu c127) ((padr_apd (padr_apd (padr_apd (padr_apd hpad1 hw307) hw316) hw321) hw333)) hq hP hD hS (lv_sub hl [0, 1, 4, 2, 3] rfl)
                  · have hq := it_neg hq c336
                    refine lv_aload_n hx hb dL_acts_516 rfl (lv_at hl 1 rfl) ?_
                    refine lv_bipush (v := 48) hx hb dL_acts_517 (by decide) ?_
                    refine lv_iload hx hb dL_acts_519 (lv_at hl 5 rfl) ?_
                    refine lv_bipush (v := 32) hx hb dL_acts_521 (by decide) ?_
                    refine lv_idiv hx hb dL_acts_523 (by decide) ?_
                    refine lv_iconst (v := 2) hx hb dL_acts_524 (by decide) ?_
                    refine lv_irem hx hb dL_acts_525 (by decide) ?_
                    refine lv_iadd hx hb dL_acts_526 ?_
                    have hPs := k_self hP
                    have hDs := k_selfD hD
                    refine k_behi (X := []) (Y := []) (va_runV (As := [.int (48 + (((((x1 / 32) / 4) >>> ((5 * k4) &&& 31)) / 32) - ((((x1 / 32) / 4) >>> ((5 * k4) &&& 31)) / 32) / 2 * 2))]) (rest := []) ⟨hx, hb, hml, hown, hts⟩ (c_X4_append l D cI cC cQ H.size d0 n0 na s0 sa h1 h2 mm ma t0 p0 pa tk N S oo zz M0 M1 M2 M3 rs de pc pg f334 v335 po dd lt pl f1s s2s tms (48 + (((((x1 / 32) / 4) >>> ((5 * k4) &&& 31)) / 32) - ((((x1 / 32) / 4) >>> ((5 * k4) &&& 31)) / 32) / 2 * 2)) ((padr_apd (padr_apd (padr_apd (padr_apd hpad1 hw307) hw316) hw321) hw333).1)) (kcwV hts wd_ml_RL_41 wd_im_yX4_append wd_sel_yX4_append wd_ini_RX4 wd_code_yX4_append rfl rfl rfl hd_X4_append ⟨Nat.le_of_ble_eq_true rfl, Nat.le_of_ble_eq_true rfl⟩) ⟨in_blind, va_recv hK (pa_l (pa_r hPs)) (ci := 4) (q0 := 0) rfl rfl, k_pre hK (pa_l (pa_r hPs)) (da_l (da_r hDs)) hN⟩ rfl rfl hl.1 rfl (lv_room (Nat.le_of_ble_eq_true rfl)) dL_acts_527 ⟨Nat.le_of_ble_eq_true rfl, Nat.le_of_ble_eq_true rfl⟩) hPs hDs hS hA (fun r337 u338 H locs hw339 hP hD hS => ?_)
                    obtain ⟨f340, v341⟩ := u338
                    have hP := k_unP hP
                    have hD := k_unD hD
                    have hP : va_P D vwCl (DW cI cC cQ d0 n0 na s0 sa h1 h2 mm ma t0 p0 pa tk N S oo zz M0 M1 M2 M3 rs de pc pg f340 v341 po dd lt pl f1s s2s tms) H := hP
                    have hD : va_D A (DW cI cC cQ d0 n0 na s0 sa h1 h2 mm ma t0 p0 pa tk N S oo zz M0 M1 M2 M3 rs de pc pg f340 v341 po dd lt pl f1s s2s tms) := hD
                    have hw339 : (r337, f340, v341) = (sh_X4_append f334 v335 (48 + (((((x1 / 32) / 4) >>> ((5 * k4) &&& 31)) / 32) - ((((x1 / 32) / 4) >>> ((5 * k4) &&& 31)) / 32) / 2 * 2))) := hw339
                    have hq := kb_to hq hw339
                    refine lv_goto (tgt := 534) hx hb dL_acts_530 (by decide) ?_
                    refine lv_istore_n (lv' := [(3, .int r337), (0, .ref d0), (1, .int x1), (2, .int (x1 / 32)), (4, .int k4), (5, .int (((x1 / 32) / 4) >>> ((5 * k4) &&& 31)))]) hx hb dL_acts_534 rfl hl (by decide) rfl (fun ls hl => ?_)
                    refine lv_iinc (v := (k4 + 1)) (lv' := [(4, .int (k4 + 1)), (3, .int r337), (0, .ref d0), (1, .int x1), (2, .int (x1 / 32)), (5, .int (((x1 / 32) / 4) >>> ((5 * k4) &&& 31)))]) hx hb dL_acts_535 hl (k := 4) rfl rfl (by decide) rfl (fun ls hl => ?_)
                    refine lv_goto (tgt := 248) hx hb dL_acts_538 (by decide) ?_
                    exact ih (r337) ((k4 + 1)) (f340) (v341) _ _ _ (k_mu hmu c127) ((padr_apd (padr_apd (padr_apd (padr_apd (padr_apd hpad1 hw307) hw316) hw321) hw333) hw339)) hq hP hD hS (lv_sub hl [0, 1, 4, 2, 3] rfl)
              refine lv_icmp_ne (tgt := 466) hx hb dL_acts_458 (by decide) (fun c311 => ?_) (fun c311 => ?_)
              · skip
                refine lv_bipush (v := 109) hx hb dL_acts_466 (by decide) ?_
                exact K (109) _ _ _ (by rw [if_neg c311]) hP hD hS (lv_sub hl [4, 5, 3, 0, 2, 1] rfl)
              · skip
                refine lv_bipush (v := 115) hx hb dL_acts_461 (by decide) ?_
                refine lv_goto (tgt := 468) hx hb dL_acts_463 (by decide) ?_
                exact K (115) _ _ _ (by rw [if_pos c311]) hP hD hS (lv_sub hl [4, 5, 3, 0, 2, 1] rfl)
            · have hq := it_neg hq c310
              refine lv_aload_n hx hb dL_acts_293 rfl (lv_at hl 4 rfl) ?_
              refine lv_bipush (v := 112) hx hb dL_acts_294 (by decide) ?_
              have hPs := k_self hP
              have hDs := k_selfD hD
              refine k_behi (X := []) (Y := []) (va_runV (As := [.int 112]) (rest := []) ⟨hx, hb, hml, hown, hts⟩ (c_X4_append l D cI cC cQ H.size d0 n0 na s0 sa h1 h2 mm ma t0 p0 pa tk N S oo zz M0 M1 M2 M3 rs de pc pg f308 v309 po dd lt pl f1s s2s tms 112 ((padr_apd hpad1 hw307).1)) (kcwV hts wd_ml_RL_41 wd_im_yX4_append wd_sel_yX4_append wd_ini_RX4 wd_code_yX4_append rfl rfl rfl hd_X4_append ⟨Nat.le_of_ble_eq_true rfl, Nat.le_of_ble_eq_true rfl⟩) ⟨in_blind, va_recv hK (pa_l (pa_r hPs)) (ci := 4) (q0 := 0) rfl rfl, k_pre hK (pa_l (pa_r hPs)) (da_l (da_r hDs)) hN⟩ rfl rfl hl.1 rfl (lv_room (Nat.le_of_ble_eq_true rfl)) dL_acts_296 ⟨Nat.le_of_ble_eq_true rfl, Nat.le_of_ble_eq_true rfl⟩) hPs hDs hS hA (fun r342 u343 H locs hw344 hP hD hS => ?_)
              obtain ⟨f345, v346⟩ := u343
              have hP := k_unP hP
              have hD := k_unD hD
              have hP : va_P D vwCl (DW cI cC cQ d0 n0 na s0 sa h1 h2 mm ma t0 p0 pa tk N S oo zz M0 M1 M2 M3 rs de pc pg f345 v346 po dd lt pl f1s s2s tms) H := hP
              have hD : va_D A (DW cI cC cQ d0 n0 na s0 sa h1 h2 mm ma t0 p0 pa tk N S oo zz M0 M1 M2 M3 rs de pc pg f345 v346 po dd lt pl f1s s2s tms) := hD
              have hw344 : (r342, f345, v346) = (sh_X4_append f308 v309 112) := hw344
              have hq := kb_to hq hw344
              refine lv_istore_n (lv' := [(3, .int r342), (5, .int (((x1 / 32) / 4) >>> ((5 * k4) &&& 31))), (4, .int k4), (2, .int (x1 / 32)), (0, .ref d0), (1, .int x1)]) hx hb dL_acts_299 rfl hl (by decide) rfl (fun ls hl => ?_)
              refine lv_aload_n hx hb dL_acts_300 rfl (lv_at hl 4 rfl) ?_
              refine lv_bipush (v := 48) hx hb dL_acts_301 (by decide) ?_
              refine lv_iload hx hb dL_acts_303 (lv_at hl 1 rfl) ?_
              refine lv_bipush (v := 8) hx hb dL_acts_305 (by decide) ?_
              refine lv_idiv hx hb dL_acts_307 (by decide) ?_
              refine lv_iconst (v := 2) hx hb dL_acts_308 (by decide) ?_
              refine lv_irem hx hb dL_acts_309 (by decide) ?_
              refine lv_iadd hx hb dL_acts_310 ?_
              have hPs := k_self hP
              have hDs := k_selfD hD
              refine k_behi (X := []) (Y := []) (va_runV (As := [.int (48 + (((((x1 / 32) / 4) >>> ((5 * k4) &&& 31)) / 8) - ((((x1 / 32) / 4) >>> ((5 * k4) &&& 31)) / 8) / 2 * 2))]) (rest := []) ⟨hx, hb, hml, hown, hts⟩ (c_X4_append l D cI cC cQ H.size d0 n0 na s0 sa h1 h2 mm ma t0 p0 pa tk N S oo zz M0 M1 M2 M3 rs de pc pg f345 v346 po dd lt pl f1s s2s tms (48 + (((((x1 / 32) / 4) >>> ((5 * k4) &&& 31)) / 8) - ((((x1 / 32) / 4) >>> ((5 * k4) &&& 31)) / 8) / 2 * 2)) ((padr_apd (padr_apd hpad1 hw307) hw344).1)) (kcwV hts wd_ml_RL_41 wd_im_yX4_append wd_sel_yX4_append wd_ini_RX4 wd_code_yX4_append rfl rfl rfl hd_X4_append ⟨Nat.le_of_ble_eq_true rfl, Nat.le_of_ble_eq_true rfl⟩) ⟨in_blind, va_recv hK (pa_l (pa_r hPs)) (ci := 4) (q0 := 0) rfl rfl, k_pre hK (pa_l (pa_r hPs)) (da_l (da_r hDs)) hN⟩ rfl rfl hl.1 rfl (lv_room (Nat.le_of_ble_eq_true rfl)) dL_acts_311 ⟨Nat.le_of_ble_eq_true rfl, Nat.le_of_ble_eq_true rfl⟩) hPs hDs hS hA (fun r347 u348 H locs hw349 hP hD hS => ?_)
              obtain ⟨f350, v351⟩ := u348
              have hP := k_unP hP
              have hD := k_unD hD
              have hP : va_P D vwCl (DW cI cC cQ d0 n0 na s0 sa h1 h2 mm ma t0 p0 pa tk N S oo zz M0 M1 M2 M3 rs de pc pg f350 v351 po dd lt pl f1s s2s tms) H := hP
              have hD : va_D A (DW cI cC cQ d0 n0 na s0 sa h1 h2 mm ma t0 p0 pa tk N S oo zz M0 M1 M2 M3 rs de pc pg f350 v351 po dd lt pl f1s s2s tms) := hD
              have hw349 : (r347, f350, v351) = (sh_X4_append f345 v346 (48 + (((((x1 / 32) / 4) >>> ((5 * k4) &&& 31)) / 8) - ((((x1 / 32) / 4) >>> ((5 * k4) &&& 31)) / 8) / 2 * 2))) := hw349
              have hq := kb_to hq hw349
              refine lv_istore_n (lv' := [(3, .int r347), (5, .int (((x1 / 32) / 4) >>> ((5 * k4) &&& 31))), (4, .int k4), (2, .int (x1 / 32)), (0, .ref d0), (1, .int x1)]) hx hb dL_acts_314 rfl hl (by decide) rfl (fun ls hl => ?_)
              refine lv_aload_n hx hb dL_acts_315 rfl (lv_at hl 4 rfl) ?_
              refine lv_bipush (v := 58) hx hb dL_acts_316 (by decide) ?_
              have hPs := k_self hP
              have hDs := k_selfD hD
              refine k_behi (X := []) (Y := []) (va_runV (As := [.int 58]) (rest := []) ⟨hx, hb, hml, hown, hts⟩ (c_X4_append l D cI cC cQ H.size d0 n0 na s0 sa h1 h2 mm ma t0 p0 pa tk N S oo zz M0 M1 M2 M3 rs de pc pg f350 v351 po dd lt pl f1s s2s tms 58 ((padr_apd (padr_apd (padr_apd hpad1 hw307) hw344) hw349).1)) (kcwV hts wd_ml_RL_41 wd_im_yX4_append wd_sel_yX4_append wd_ini_RX4 wd_code_yX4_append rfl rfl rfl hd_X4_append ⟨Nat.le_of_ble_eq_true rfl, Nat.le_of_ble_eq_true rfl⟩) ⟨in_blind, va_recv hK (pa_l (pa_r hPs)) (ci := 4) (q0 := 0) rfl rfl, k_pre hK (pa_l (pa_r hPs)) (da_l (da_r hDs)) hN⟩ rfl rfl hl.1 rfl (lv_room (Nat.le_of_ble_eq_true rfl)) dL_acts_318 ⟨Nat.le_of_ble_eq_true rfl, Nat.le_of_ble_eq_true rfl⟩) hPs hDs hS hA (fun r352 u353 H locs hw354 hP hD hS => ?_)
              obtain ⟨f355, v356⟩ := u353
              have hP := k_unP hP
              have hD := k_unD hD
              have hP : va_P D vwCl (DW cI cC cQ d0 n0 na s0 sa h1 h2 mm ma t0 p0 pa tk N S oo zz M0 M1 M2 M3 rs de pc pg f355 v356 po dd lt pl f1s s2s tms) H := hP
              have hD : va_D A (DW cI cC cQ d0 n0 na s0 sa h1 h2 mm ma t0 p0 pa tk N S oo zz M0 M1 M2 M3 rs de pc pg f355 v356 po dd lt pl f1s s2s tms) := hD
              have hw354 : (r352, f355, v356) = (sh_X4_append f350 v351 58) := hw354
              have hq := kb_to hq hw354
              refine lv_istore_n (lv' := [(3, .int r352), (5, .int (((x1 / 32) / 4) >>> ((5 * k4) &&& 31))), (4, .int k4), (2, .int (x1 / 32)), (0, .ref d0), (1, .int x1)]) hx hb dL_acts_321 rfl hl (by decide) rfl (fun ls hl => ?_)
              refine lv_aload_n hx hb dL_acts_322 rfl (lv_at hl 4 rfl) ?_
              refine lv_bipush (v := 49) hx hb dL_acts_323 (by decide) ?_
              refine lv_iload hx hb dL_acts_325 (lv_at hl 1 rfl) ?_
              refine lv_bipush (v := 16) hx hb dL_acts_327 (by decide) ?_
              refine lv_idiv hx hb dL_acts_329 (by decide) ?_
              refine lv_bipush (v := 9) hx hb dL_acts_330 (by decide) ?_
              refine lv_irem hx hb dL_acts_332 (by decide) ?_
              refine lv_iadd hx hb dL_acts_333 ?_
              have hPs := k_self hP
              have hDs := k_selfD hD
              refine k_behi (X := []) (Y := []) (va_runV (As := [.int (49 + (((((x1 / 32) / 4) >>> ((5 * k4) &&& 31)) / 16) - ((((x1 / 32) / 4) >>> ((5 * k4) &&& 31)) / 16) / 9 * 9))]) (rest := []) ⟨hx, hb, hml, hown, hts⟩ (c_X4_append l D cI cC cQ H.size d0 n0 na s0 sa h1 h2 mm ma t0 p0 pa tk N S oo zz M0 M1 M2 M3 rs de pc pg f355 v356 po dd lt pl f1s s2s tms (49 + (((((x1 / 32) / 4) >>> ((5 * k4) &&& 31)) / 16) - ((((x1 / 32) / 4) >>> ((5 * k4) &&& 31)) / 16) / 9 * 9)) ((padr_apd (padr_apd (padr_apd (padr_apd hpad1 hw307) hw344) hw349) hw354).1)) (kcwV hts wd_ml_RL_41 wd_im_yX4_append wd_sel_yX4_append wd_ini_RX4 wd_code_yX4_append rfl rfl rfl hd_X4_append ⟨Nat.le_of_ble_eq_true rfl, Nat.le_of_ble_eq_true rfl⟩) ⟨in_blind, va_recv hK (pa_l (pa_r hPs)) (ci := 4) (q0 := 0) rfl rfl, k_pre hK (pa_l (pa_r hPs)) (da_l (da_r hDs)) hN⟩ rfl rfl hl.1 rfl (lv_room (Nat.le_of_ble_eq_true rfl)) dL_acts_334 ⟨Nat.le_of_ble_eq_true rfl, Nat.le_of_ble_eq_true rfl⟩) hPs hDs hS hA (fun r357 u358 H locs hw359 hP hD hS => ?_)
              obtain ⟨f360, v361⟩ := u358
              have hP := k_unP hP
              have hD := k_unD hD
              have hP : va_P D vwCl (DW cI cC cQ d0 n0 na s0 sa h1 h2 mm ma t0 p0 pa tk N S oo zz M0 M1 M2 M3 rs de pc pg f360 v361 po dd lt pl f1s s2s tms) H := hP
              have hD : va_D A (DW cI cC cQ d0 n0 na s0 sa h1 h2 mm ma t0 p0 pa tk N S oo zz M0 M1 M2 M3 rs de pc pg f360 v361 po dd lt pl f1s s2s tms) := hD
              have hw359 : (r357, f360, v361) = (sh_X4_append f355 v356 (49 + (((((x1 / 32) / 4) >>> ((5 * k4) &&& 31)) / 16) - ((((x1 / 32) / 4) >>> ((5 * k4) &&& 31)) / 16) / 9 * 9))) := hw359
              have hq := kb_to hq hw359
              refine lv_istore_n (lv' := [(3, .int r357), (5, .int (((x1 / 32) / 4) >>> ((5 * k4) &&& 31))), (4, .int k4), (2, .int (x1 / 32)), (0, .ref d0), (1, .int x1)]) hx hb dL_acts_337 rfl hl (by decide) rfl (fun ls hl => ?_)
              refine lv_iload hx hb dL_acts_338 (lv_at hl 1 rfl) ?_
              refine lv_bipush (v := 8) hx hb dL_acts_340 (by decide) ?_
              refine lv_irem hx hb dL_acts_342 (by decide) ?_
              refine lv_iconst (v := 3) hx hb dL_acts_343 (by decide) ?_
              refine lv_icmp_ge (tgt := 365) hx hb dL_acts_344 (by decide) (fun c362 => ?_) (fun c362 => ?_)
              · have hq := it_pos hq c362
                refine lv_iload_n hx hb dL_acts_365 rfl (lv_at hl 0 rfl) ?_
                refine lv_istore_n (lv' := [(3, .int r357), (5, .int (((x1 / 32) / 4) >>> ((5 * k4) &&& 31))), (4, .int k4), (2, .int (x1 / 32)), (0, .ref d0), (1, .int x1)]) hx hb dL_acts_366 rfl hl (by decide) rfl (fun ls hl => ?_)
                refine lv_iload hx hb dL_acts_367 (lv_at hl 1 rfl) ?_
                refine lv_bipush (v := 8) hx hb dL_acts_369 (by decide) ?_
                refine lv_irem hx hb dL_acts_371 (by decide) ?_
                refine lv_iconst (v := 1) hx hb dL_acts_372 (by decide) ?_
                refine lv_icmp_ge (tgt := 394) hx hb dL_acts_373 (by decide) (fun c363 => ?_) (fun c363 => ?_)
                · have hq := it_pos hq c363
                  refine lv_iload_n hx hb dL_acts_394 rfl (lv_at hl 0 rfl) ?_
                  refine lv_istore_n (lv' := [(3, .int r357), (5, .int (((x1 / 32) / 4) >>> ((5 * k4) &&& 31))), (4, .int k4), (2, .int (x1 / 32)), (0, .ref d0), (1, .int x1)]) hx hb dL_acts_395 rfl hl (by decide) rfl (fun ls hl => ?_)
                  refine lv_iload hx hb dL_acts_396 (lv_at hl 1 rfl) ?_
                  refine lv_bipush (v := 16) hx hb dL_acts_398 (by decide) ?_
                  refine lv_idiv hx hb dL_acts_400 (by decide) ?_
                  refine lv_iconst (v := 3) hx hb dL_acts_401 (by decide) ?_
                  refine lv_irem hx hb dL_acts_402 (by decide) ?_
                  refine lv_if_ne (tgt := 415) hx hb dL_acts_403 (by decide) (fun c364 => ?_) (fun c364 => ?_)
                  · have hq := it_neg hq c364
                    refine lv_iload_n hx hb dL_acts_415 rfl (lv_at hl 0 rfl) ?_
                    refine lv_istore_n (lv' := [(3, .int r357), (5, .int (((x1 / 32) / 4) >>> ((5 * k4) &&& 31))), (4, .int k4), (2, .int (x1 / 32)), (0, .ref d0), (1, .int x1)]) hx hb dL_acts_416 rfl hl (by decide) rfl (fun ls hl => ?_)
                    refine lv_iload hx hb dL_acts_417 (lv_at hl 1 rfl) ?_
                    refine lv_bipush (v := 16) hx hb dL_acts_419 (by decide) ?_
                    refine lv_idiv hx hb dL_acts_421 (by decide) ?_
                    refine lv_iconst (v := 3) hx hb dL_acts_422 (by decide) ?_
                    refine lv_irem hx hb dL_acts_423 (by decide) ?_
                    refine lv_if_ne (tgt := 446) hx hb dL_acts_424 (by decide) (fun c365 => ?_) (fun c365 => ?_)
                    · have hq := it_neg hq c365
                      refine lv_iload_n hx hb dL_acts_446 rfl (lv_at hl 0 rfl) ?_
                      refine lv_istore_n (lv' := [(3, .int r357), (5, .int (((x1 / 32) / 4) >>> ((5 * k4) &&& 31))), (4, .int k4), (2, .int (x1 / 32)), (0, .ref d0), (1, .int x1)]) hx hb dL_acts_447 rfl hl (by decide) rfl (fun ls hl => ?_)
                      refine lv_goto (tgt := 535) hx hb dL_acts_448 (by decide) ?_
                      refine lv_iinc (v := (k4 + 1)) (lv' := [(4, .int (k4 + 1)), (3, .int r357), (5, .int (((x1 / 32) / 4) >>> ((5 * k4) &&& 31))), (2, .int (x1 / 32)), (0, .ref d0), (1, .int x1)]) hx hb dL_acts_535 hl (k := 2) rfl rfl (by decide) rfl (fun ls hl => ?_)
                      refine lv_goto (tgt := 248) hx hb dL_acts_538 (by decide) ?_
                      exact ih (r357) ((k4 + 1)) (f360) (v361) _ _ _ (k_mu hmu c127) ((padr_apd (padr_apd (padr_apd (padr_apd (padr_apd hpad1 hw307) hw344) hw349) hw354) hw359)) hq hP hD hS (lv_sub hl [0, 1, 3, 4, 5] rfl)
                    · have hq := it_pos hq c365
                      refine lv_aload_n hx hb dL_acts_427 rfl (lv_at hl 4 rfl) ?_
                      refine lv_bipush (v := 50) hx hb dL_acts_428 (by decide) ?_
                      refine lv_iload hx hb dL_acts_430 (lv_at hl 1 rfl) ?_
                      refine lv_sipush (v := 128) hx hb dL_acts_432 (by decide) ?_
                      refine lv_idiv hx hb dL_acts_435 (by decide) ?_
                      refine lv_bipush (v := 8) hx hb dL_acts_436 (by decide) ?_
                      refine lv_irem hx hb dL_acts_438 (by decide) ?_
                      refine lv_iadd hx hb dL_acts_439 ?_
                      have hPs := k_self hP
                      have hDs := k_selfD hD
                      refine k_behi (X := []) (Y := []) (va_runV (As := [.int (50 + (((((x1 / 32) / 4) >>> ((5 * k4) &&& 31)) / 128) - ((((x1 / 32) / 4) >>> ((5 * k4) &&& 31)) / 128) / 8 * 8))]) (rest := []) ⟨hx, hb, hml, hown, hts⟩ (c_X4_append l D cI cC cQ H.size d0 n0 na s0 sa h1 h2 mm ma t0 p0 pa tk N S oo zz M0 M1 M2 M3 rs de pc pg f360 v361 po dd lt pl f1s s2s tms (50 + (((((x1 / 32) / 4) >>> ((5 * k4) &&& 31)) / 128) - ((((x1 / 32) / 4) >>> ((5 * k4) &&& 31)) / 128) / 8 * 8)) ((padr_apd (padr_apd (padr_apd (padr_apd (padr_apd hpad1 hw307) hw344) hw349) hw354) hw359).1)) (kcwV hts wd_ml_RL_41 wd_im_yX4_append wd_sel_yX4_append wd_ini_RX4 wd_code_yX4_append rfl rfl rfl hd_X4_append ⟨Nat.le_of_ble_eq_true rfl, Nat.le_of_ble_eq_true rfl⟩) ⟨in_blind, va_recv hK (pa_l (pa_r hPs)) (ci := 4) (q0 := 0) rfl rfl, k_pre hK (pa_l (pa_r hPs)) (da_l (da_r hDs)) hN⟩ rfl rfl hl.1 rfl (lv_room (Nat.le_of_ble_eq_true rfl)) dL_acts_440 ⟨Nat.le_of_ble_eq_true rfl, Nat.le_of_ble_eq_true rfl⟩) hPs hDs hS hA (fun r366 u367 H locs hw368 hP hD hS => ?_)
                      obtain ⟨f369, v370⟩ := u367
                      have hP := k_unP hP
                      have hD := k_unD hD
                      have hP : va_P D vwCl (DW cI cC cQ d0 n0 na s0 sa h1 h2 mm ma t0 p0 pa tk N S oo zz M0 M1 M2 M3 rs de pc pg f369 v370 po dd lt pl f1s s2s tms) H := hP
                      have hD : va_D A (DW cI cC cQ d0 n0 na s0 sa h1 h2 mm ma t0 p0 pa tk N S oo zz M0 M1 M2 M3 rs de pc pg f369 v370 po dd lt pl f1s s2s tms) := hD
                      have hw368 : (r366, f369, v370) = (sh_X4_append f360 v361 (50 + (((((x1 / 32) / 4) >>> ((5 * k4) &&& 31)) / 128) - ((((x1 / 32) / 4) >>> ((5 * k4) &&& 31)) / 128) / 8 * 8))) := hw368
                      have hq := kb_to hq hw368
                      refine lv_goto (tgt := 447) hx hb dL_acts_443 (by decide) ?_
                      refine lv_istore_n (lv' := [(3, .int r366), (5, .int (((x1 / 32) / 4) >>> ((5 * k4) &&& 31))), (4, .int k4), (2, .int (x1 / 32)), (0, .ref d0), (1, .int x1)]) hx hb dL_acts_447 rfl hl (by decide) rfl (fun ls hl => ?_)
                      refine lv_goto (tgt := 535) hx hb dL_acts_448 (by decide) ?_
                      refine lv_iinc (v := (k4 + 1)) (lv' := [(4, .int (k4 + 1)), (3, .int r366), (5, .int (((x1 / 32) / 4) >>> ((5 * k4) &&& 31))), (2, .int (x1 / 32)), (0, .ref d0), (1, .int x1)]) hx hb dL_acts_535 hl (k := 2) rfl rfl (by decide) rfl (fun ls hl => ?_)
                      refine lv_goto (tgt := 248) hx hb dL_acts_538 (by decide) ?_
                      exact ih (r366) ((k4 + 1)) (f369) (v370) _ _ _ (k_mu hmu c127) ((padr_apd (padr_apd (padr_apd (padr_apd (padr_apd (padr_apd hpad1 hw307) hw344) hw349) hw354) hw359) hw368)) hq hP hD hS (lv_sub hl [0, 1, 3, 4, 5] rfl)
                  · have hq := it_pos hq c364
                    refine lv_aload_n hx hb dL_acts_406 rfl (lv_at hl 4 rfl) ?_
                    refine lv_bipush (v := 120) hx hb dL_acts_407 (by decide) ?_
                    have hPs := k_self hP
                    have hDs := k_selfD hD
                    refine k_behi (X := []) (Y := []) (va_runV (As := [.int 120]) (rest := []) ⟨hx, hb, hml, hown, hts⟩ (c_X4_append l D cI cC cQ H.size d0 n0 na s0 sa h1 h2 mm ma t0 p0 pa tk N S oo zz M0 M1 M2 M3 rs de pc pg f360 v361 po dd lt pl f1s s2s tms 120 ((padr_apd (padr_apd (padr_apd (padr_apd (padr_apd hpad1 hw307) hw344) hw349) hw354) hw359).1)) (kcwV hts wd_ml_RL_41 wd_im_yX4_append wd_sel_yX4_append wd_ini_RX4 wd_code_yX4_append rfl rfl rfl hd_X4_append ⟨Nat.le_of_ble_eq_true rfl, Nat.le_of_ble_eq_true rfl⟩) ⟨in_blind, va_recv hK (pa_l (pa_r hPs)) (ci := 4) (q0 := 0) rfl rfl, k_pre hK (pa_l (pa_r hPs)) (da_l (da_r hDs)) hN⟩ rfl rfl hl.1 rfl (lv_room (Nat.le_of_ble_eq_true rfl)) dL_acts_409 ⟨Nat.le_of_ble_eq_true rfl, Nat.le_of_ble_eq_true rfl⟩) hPs hDs hS hA (fun r371 u372 H locs hw373 hP hD hS => ?_)
                    obtain ⟨f374, v375⟩ := u372
                    have hP := k_unP hP
                    have hD := k_unD hD
                    have hP : va_P D vwCl (DW cI cC cQ d0 n0 na s0 sa h1 h2 mm ma t0 p0 pa tk N S oo zz M0 M1 M2 M3 rs de pc pg f374 v375 po dd lt pl f1s s2s tms) H := hP
                    have hD : va_D A (DW cI cC cQ d0 n0 na s0 sa h1 h2 mm ma t0 p0 pa tk N S oo zz M0 M1 M2 M3 rs de pc pg f374 v375 po dd lt pl f1s s2s tms) := hD
                    have hw373 : (r371, f374, v375) = (sh_X4_append f360 v361 120) := hw373
                    have hq := kb_to hq hw373
                    refine lv_goto (tgt := 416) hx hb dL_acts_412 (by decide) ?_
                    refine lv_istore_n (lv' := [(3, .int r371), (5, .int (((x1 / 32) / 4) >>> ((5 * k4) &&& 31))), (4, .int k4), (2, .int (x1 / 32)), (0, .ref d0), (1, .int x1)]) hx hb dL_acts_416 rfl hl (by decide) rfl (fun ls hl => ?_)
                    refine lv_iload hx hb dL_acts_417 (lv_at hl 1 rfl) ?_
                    refine lv_bipush (v := 16) hx hb dL_acts_419 (by decide) ?_
                    refine lv_idiv hx hb dL_acts_421 (by decide) ?_
                    refine lv_iconst (v := 3) hx hb dL_acts_422 (by decide) ?_
                    refine lv_irem hx hb dL_acts_423 (by decide) ?_
                    refine lv_if_ne (tgt := 446) hx hb dL_acts_424 (by decide) (fun c376 => ?_) (fun c376 => ?_)
                    · have hq := it_neg hq c376
                      refine lv_iload_n hx hb dL_acts_446 rfl (lv_at hl 0 rfl) ?_
                      refine lv_istore_n (lv' := [(3, .int r371), (5, .int (((x1 / 32) / 4) >>> ((5 * k4) &&& 31))), (4, .int k4), (2, .int (x1 / 32)), (0, .ref d0), (1, .int x1)]) hx hb dL_acts_447 rfl hl (by decide) rfl (fun ls hl => ?_)
                      refine lv_goto (tgt := 535) hx hb dL_acts_448 (by decide) ?_
                      refine lv_iinc (v := (k4 + 1)) (lv' := [(4, .int (k4 + 1)), (3, .int r371), (5, .int (((x1 / 32) / 4) >>> ((5 * k4) &&& 31))), (2, .int (x1 / 32)), (0, .ref d0), (1, .int x1)]) hx hb dL_acts_535 hl (k := 2) rfl rfl (by decide) rfl (fun ls hl => ?_)
                      refine lv_goto (tgt := 248) hx hb dL_acts_538 (by decide) ?_
                      exact ih (r371) ((k4 + 1)) (f374) (v375) _ _ _ (k_mu hmu c127) ((padr_apd (padr_apd (padr_apd (padr_apd (padr_apd (padr_apd hpad1 hw307) hw344) hw349) hw354) hw359) hw373)) hq hP hD hS (lv_sub hl [0, 1, 3, 4, 5] rfl)
                    · have hq := it_pos hq c376
                      refine lv_aload_n hx hb dL_acts_427 rfl (lv_at hl 4 rfl) ?_
                      refine lv_bipush (v := 50) hx hb dL_acts_428 (by decide) ?_
                      refine lv_iload hx hb dL_acts_430 (lv_at hl 1 rfl) ?_
                      refine lv_sipush (v := 128) hx hb dL_acts_432 (by decide) ?_
                      refine lv_idiv hx hb dL_acts_435 (by decide) ?_
                      refine lv_bipush (v := 8) hx hb dL_acts_436 (by decide) ?_
                      refine lv_irem hx hb dL_acts_438 (by decide) ?_
                      refine lv_iadd hx hb dL_acts_439 ?_
                      have hPs := k_self hP
                      have hDs := k_selfD hD
                      refine k_behi (X := []) (Y := []) (va_runV (As := [.int (50 + (((((x1 / 32) / 4) >>> ((5 * k4) &&& 31)) / 128) - ((((x1 / 32) / 4) >>> ((5 * k4) &&& 31)) / 128) / 8 * 8))]) (rest := []) ⟨hx, hb, hml, hown, hts⟩ (c_X4_append l D cI cC cQ H.size d0 n0 na s0 sa h1 h2 mm ma t0 p0 pa tk N S oo zz M0 M1 M2 M3 rs de pc pg f374 v375 po dd lt pl f1s s2s tms (50 + (((((x1 / 32) / 4) >>> ((5 * k4) &&& 31)) / 128) - ((((x1 / 32) / 4) >>> ((5 * k4) &&& 31)) / 128) / 8 * 8)) ((padr_apd (padr_apd (padr_apd (padr_apd (padr_apd (padr_apd hpad1 hw307) hw344) hw349) hw354) hw359) hw373).1)) (kcwV hts wd_ml_RL_41 wd_im_yX4_append wd_sel_yX4_append wd_ini_RX4 wd_code_yX4_append rfl rfl rfl hd_X4_append ⟨Nat.le_of_ble_eq_true rfl, Nat.le_of_ble_eq_true rfl⟩) ⟨in_blind, va_recv hK (pa_l (pa_r hPs)) (ci := 4) (q0 := 0) rfl rfl, k_pre hK (pa_l (pa_r hPs)) (da_l (da_r hDs)) hN⟩ rfl rfl hl.1 rfl (lv_room (Nat.le_of_ble_eq_true rfl)) dL_acts_440 ⟨Nat.le_of_ble_eq_true rfl, Nat.le_of_ble_eq_true rfl⟩) hPs hDs hS hA (fun r377 u378 H locs hw379 hP hD hS => ?_)
                      obtain ⟨f380, v381⟩ := u378
                      have hP := k_unP hP
                      have hD := k_unD hD
                      have hP : va_P D vwCl (DW cI cC cQ d0 n0 na s0 sa h1 h2 mm ma t0 p0 pa tk N S oo zz M0 M1 M2 M3 rs de pc pg f380 v381 po dd lt pl f1s s2s tms) H := hP
                      have hD : va_D A (DW cI cC cQ d0 n0 na s0 sa h1 h2 mm ma t0 p0 pa tk N S oo zz M0 M1 M2 M3 rs de pc pg f380 v381 po dd lt pl f1s s2s tms) := hD
                      have hw379 : (r377, f380, v381) = (sh_X4_append f374 v375 (50 + (((((x1 / 32) / 4) >>> ((5 * k4) &&& 31)) / 128) - ((((x1 / 32) / 4) >>> ((5 * k4) &&& 31)) / 128) / 8 * 8))) := hw379
                      have hq := kb_to hq hw379
                      refine lv_goto (tgt := 447) hx hb dL_acts_443 (by decide) ?_
                      refine lv_istore_n (lv' := [(3, .int r377), (5, .int (((x1 / 32) / 4) >>> ((5 * k4) &&& 31))), (4, .int k4), (2, .int (x1 / 32)), (0, .ref d0), (1, .int x1)]) hx hb dL_acts_447 rfl hl (by decide) rfl (fun ls hl => ?_)
                      refine lv_goto (tgt := 535) hx hb dL_acts_448 (by decide) ?_
                      refine lv_iinc (v := (k4 + 1)) (lv' := [(4, .int (k4 + 1)), (3, .int r377), (5, .int (((x1 / 32) / 4) >>> ((5 * k4) &&& 31))), (2, .int (x1 / 32)), (0, .ref d0), (1, .int x1)]) hx hb dL_acts_535 hl (k := 2) rfl rfl (by decide) rfl (fun ls hl => ?_)
                      refine lv_goto (tgt := 248) hx hb dL_acts_538 (by decide) ?_
                      exact ih (r377) ((k4 + 1)) (f380) (v381) _ _ _ (k_mu hmu c127) ((padr_apd (padr_apd (padr_apd (padr_apd (padr_apd (padr_apd (padr_apd hpad1 hw307) hw344) hw349) hw354) hw359) hw373) hw379)) hq hP hD hS (lv_sub hl [0, 1, 3, 4, 5] rfl)
                · have hq := it_neg hq c363
                  refine lv_aload_n hx hb dL_acts_376 rfl (lv_at hl 4 rfl) ?_
                  refine lv_bipush (v := 48) hx hb dL_acts_377 (by decide) ?_
                  refine lv_iload hx hb dL_acts_379 (lv_at hl 1 rfl) ?_
                  refine lv_bipush (v := 64) hx hb dL_acts_381 (by decide) ?_
                  refine lv_idiv hx hb dL_acts_383 (by decide) ?_
                  refine lv_bipush (v := 10) hx hb dL_acts_384 (by decide) ?_
                  refine lv_irem hx hb dL_acts_386 (by decide) ?_
                  refine lv_iadd hx hb dL_acts_387 ?_
                  have hPs := k_self hP
                  have hDs := k_selfD hD
                  refine k_behi (X := []) (Y := []) (va_runV (As := [.int (48 + (((((x1 / 32) / 4) >>> ((5 * k4) &&& 31)) / 64) - ((((x1 / 32) / 4) >>> ((5 * k4) &&& 31)) / 64) / 10 * 10))]) (rest := []) ⟨hx, hb, hml, hown, hts⟩ (c_X4_append l D cI cC cQ H.size d0 n0 na s0 sa h1 h2 mm ma t0 p0 pa tk N S oo zz M0 M1 M2 M3 rs de pc pg f360 v361 po dd lt pl f1s s2s tms (48 + (((((x1 / 32) / 4) >>> ((5 * k4) &&& 31)) / 64) - ((((x1 / 32) / 4) >>> ((5 * k4) &&& 31)) / 64) / 10 * 10)) ((padr_apd (padr_apd (padr_apd (padr_apd (padr_apd hpad1 hw307) hw344) hw349) hw354) hw359).1)) (kcwV hts wd_ml_RL_41 wd_im_yX4_append wd_sel_yX4_append wd_ini_RX4 wd_code_yX4_append rfl rfl rfl hd_X4_append ⟨Nat.le_of_ble_eq_true rfl, Nat.le_of_ble_eq_true rfl⟩) ⟨in_blind, va_recv hK (pa_l (pa_r hPs)) (ci := 4) (q0 := 0) rfl rfl, k_pre hK (pa_l (pa_r hPs)) (da_l (da_r hDs)) hN⟩ rfl rfl hl.1 rfl (lv_room (Nat.le_of_ble_eq_true rfl)) dL_acts_388 ⟨Nat.le_of_ble_eq_true rfl, Nat.le_of_ble_eq_true rfl⟩) hPs hDs hS hA (fun r382 u383 H locs hw384 hP hD hS => ?_)
                  obtain ⟨f385, v386⟩ := u383
                  have hP := k_unP hP
                  have hD := k_unD hD
                  have hP : va_P D vwCl (DW cI cC cQ d0 n0 na s0 sa h1 h2 mm ma t0 p0 pa tk N S oo zz M0 M1 M2 M3 rs de pc pg f385 v386 po dd lt pl f1s s2s tms) H := hP
                  have hD : va_D A (DW cI cC cQ d0 n0 na s0 sa h1 h2 mm ma t0 p0 pa tk N S oo zz M0 M1 M2 M3 rs de pc pg f385 v386 po dd lt pl f1s s2s tms) := hD
                  have hw384 : (r382, f385, v386) = (sh_X4_append f360 v361 (48 + (((((x1 / 32) / 4) >>> ((5 * k4) &&& 31)) / 64) - ((((x1 / 32) / 4) >>> ((5 * k4) &&& 31)) / 64) / 10 * 10))) := hw384
                  have hq := kb_to hq hw384
                  refine lv_goto (tgt := 395) hx hb dL_acts_391 (by decide) ?_
                  refine lv_istore_n (lv' := [(3, .int r382), (5, .int (((x1 / 32) / 4) >>> ((5 * k4) &&& 31))), (4, .int k4), (2, .int (x1 / 32)), (0, .ref d0), (1, .int x1)]) hx hb dL_acts_395 rfl hl (by decide) rfl (fun ls hl => ?_)
                  refine lv_iload hx hb dL_acts_396 (lv_at hl 1 rfl) ?_
                  refine lv_bipush (v := 16) hx hb dL_acts_398 (by decide) ?_
                  refine lv_idiv hx hb dL_acts_400 (by decide) ?_
                  refine lv_iconst (v := 3) hx hb dL_acts_401 (by decide) ?_
                  refine lv_irem hx hb dL_acts_402 (by decide) ?_
                  refine lv_if_ne (tgt := 415) hx hb dL_acts_403 (by decide) (fun c387 => ?_) (fun c387 => ?_)
                  · have hq := it_neg hq c387
                    refine lv_iload_n hx hb dL_acts_415 rfl (lv_at hl 0 rfl) ?_
                    refine lv_istore_n (lv' := [(3, .int r382), (5, .int (((x1 / 32) / 4) >>> ((5 * k4) &&& 31))), (4, .int k4), (2, .int (x1 / 32)), (0, .ref d0), (1, .int x1)]) hx hb dL_acts_416 rfl hl (by decide) rfl (fun ls hl => ?_)
                    refine lv_iload hx hb dL_acts_417 (lv_at hl 1 rfl) ?_
                    refine lv_bipush (v := 16) hx hb dL_acts_419 (by decide) ?_
                    refine lv_idiv hx hb dL_acts_421 (by decide) ?_
                    refine lv_iconst (v := 3) hx hb dL_acts_422 (by decide) ?_
                    refine lv_irem hx hb dL_acts_423 (by decide) ?_
                    refine lv_if_ne (tgt := 446) hx hb dL_acts_424 (by decide) (fun c388 => ?_) (fun c388 => ?_)
                    · have hq := it_neg hq c388
                      refine lv_iload_n hx hb dL_acts_446 rfl (lv_at hl 0 rfl) ?_
                      refine lv_istore_n (lv' := [(3, .int r382), (5, .int (((x1 / 32) / 4) >>> ((5 * k4) &&& 31))), (4, .int k4), (2, .int (x1 / 32)), (0, .ref d0), (1, .int x1)]) hx hb dL_acts_447 rfl hl (by decide) rfl (fun ls hl => ?_)
                      refine lv_goto (tgt := 535) hx hb dL_acts_448 (by decide) ?_
                      refine lv_iinc (v := (k4 + 1)) (lv' := [(4, .int (k4 + 1)), (3, .int r382), (5, .int (((x1 / 32) / 4) >>> ((5 * k4) &&& 31))), (2, .int (x1 / 32)), (0, .ref d0), (1, .int x1)]) hx hb dL_acts_535 hl (k := 2) rfl rfl (by decide) rfl (fun ls hl => ?_)
                      refine lv_goto (tgt := 248) hx hb dL_acts_538 (by decide) ?_
                      exact ih (r382) ((k4 + 1)) (f385) (v386) _ _ _ (k_mu hmu c127) ((padr_apd (padr_apd (padr_apd (padr_apd (padr_apd (padr_apd hpad1 hw307) hw344) hw349) hw354) hw359) hw384)) hq hP hD hS (lv_sub hl [0, 1, 3, 4, 5] rfl)
                    · have hq := it_pos hq c388
                      refine lv_aload_n hx hb dL_acts_427 rfl (lv_at hl 4 rfl) ?_
                      refine lv_bipush (v := 50) hx hb dL_acts_428 (by decide) ?_
                      refine lv_iload hx hb dL_acts_430 (lv_at hl 1 rfl) ?_
                      refine lv_sipush (v := 128) hx hb dL_acts_432 (by decide) ?_
                      refine lv_idiv hx hb dL_acts_435 (by decide) ?_
                      refine lv_bipush (v := 8) hx hb dL_acts_436 (by decide) ?_
                      refine lv_irem hx hb dL_acts_438 (by decide) ?_
                      refine lv_iadd hx hb dL_acts_439 ?_
                      have hPs := k_self hP
                      have hDs := k_selfD hD
                      refine k_behi (X := []) (Y := []) (va_runV (As := [.int (50 + (((((x1 / 32) / 4) >>> ((5 * k4) &&& 31)) / 128) - ((((x1 / 32) / 4) >>> ((5 * k4) &&& 31)) / 128) / 8 * 8))]) (rest := []) ⟨hx, hb, hml, hown, hts⟩ (c_X4_append l D cI cC cQ H.size d0 n0 na s0 sa h1 h2 mm ma t0 p0 pa tk N S oo zz M0 M1 M2 M3 rs de pc pg f385 v386 po dd lt pl f1s s2s tms (50 + (((((x1 / 32) / 4) >>> ((5 * k4) &&& 31)) / 128) - ((((x1 / 32) / 4) >>> ((5 * k4) &&& 31)) / 128) / 8 * 8)) ((padr_apd (padr_apd (padr_apd (padr_apd (padr_apd (padr_apd hpad1 hw307) hw344) hw349) hw354) hw359) hw384).1)) (kcwV hts wd_ml_RL_41 wd_im_yX4_append wd_sel_yX4_append wd_ini_RX4 wd_code_yX4_append rfl rfl rfl hd_X4_append ⟨Nat.le_of_ble_eq_true rfl, Nat.le_of_ble_eq_true rfl⟩) ⟨in_blind, va_recv hK (pa_l (pa_r hPs)) (ci := 4) (q0 := 0) rfl rfl, k_pre hK (pa_l (pa_r hPs)) (da_l (da_r hDs)) hN⟩ rfl rfl hl.1 rfl (lv_room (Nat.le_of_ble_eq_true rfl)) dL_acts_440 ⟨Nat.le_of_ble_eq_true rfl, Nat.le_of_ble_eq_true rfl⟩) hPs hDs hS hA (fun r389 u390 H locs hw391 hP hD hS => ?_)
                      obtain ⟨f392, v393⟩ := u390
                      have hP := k_unP hP
                      have hD := k_unD hD
                      have hP : va_P D vwCl (DW cI cC cQ d0 n0 na s0 sa h1 h2 mm ma t0 p0 pa tk N S oo zz M0 M1 M2 M3 rs de pc pg f392 v393 po dd lt pl f1s s2s tms) H := hP
                      have hD : va_D A (DW cI cC cQ d0 n0 na s0 sa h1 h2 mm ma t0 p0 pa tk N S oo zz M0 M1 M2 M3 rs de pc pg f392 v393 po dd lt pl f1s s2s tms) := hD
                      have hw391 : (r389, f392, v393) = (sh_X4_append f385 v386 (50 + (((((x1 / 32) / 4) >>> ((5 * k4) &&& 31)) / 128) - ((((x1 / 32) / 4) >>> ((5 * k4) &&& 31)) / 128) / 8 * 8))) := hw391
                      have hq := kb_to hq hw391
                      refine lv_goto (tgt := 447) hx hb dL_acts_443 (by decide) ?_
                      refine lv_istore_n (lv' := [(3, .int r389), (5, .int (((x1 / 32) / 4) >>> ((5 * k4) &&& 31))), (4, .int k4), (2, .int (x1 / 32)), (0, .ref d0), (1, .int x1)]) hx hb dL_acts_447 rfl hl (by decide) rfl (fun ls hl => ?_)
                      refine lv_goto (tgt := 535) hx hb dL_acts_448 (by decide) ?_
                      refine lv_iinc (v := (k4 + 1)) (lv' := [(4, .int (k4 + 1)), (3, .int r389), (5, .int (((x1 / 32) / 4) >>> ((5 * k4) &&& 31))), (2, .int (x1 / 32)), (0, .ref d0), (1, .int x1)]) hx hb dL_acts_535 hl (k := 2) rfl rfl (by decide) rfl (fun ls hl => ?_)
                      refine lv_goto (tgt := 248) hx hb dL_acts_538 (by decide) ?_
                      exact ih (r389) ((k4 + 1)) (f392) (v393) _ _ _ (k_mu hmu c127) ((padr_apd (padr_apd (padr_apd (padr_apd (padr_apd (padr_apd (padr_apd hpad1 hw307) hw344) hw349) hw354) hw359) hw384) hw391)) hq hP hD hS (lv_sub hl [0, 1, 3, 4, 5] rfl)
                  · have hq := it_pos hq c387
                    refine lv_aload_n hx hb dL_acts_406 rfl (lv_at hl 4 rfl) ?_
                    refine lv_bipush (v := 120) hx hb dL_acts_407 (by decide) ?_
                    have hPs := k_self hP
                    have hDs := k_selfD hD
                    refine k_behi (X := []) (Y := []) (va_runV (As := [.int 120]) (rest := []) ⟨hx, hb, hml, hown, hts⟩ (c_X4_append l D cI cC cQ H.size d0 n0 na s0 sa h1 h2 mm ma t0 p0 pa tk N S oo zz M0 M1 M2 M3 rs de pc pg f385 v386 po dd lt pl f1s s2s tms 120 ((padr_apd (padr_apd (padr_apd (padr_apd (padr_apd (padr_apd hpad1 hw307) hw344) hw349) hw354) hw359) hw384).1)) (kcwV hts wd_ml_RL_41 wd_im_yX4_append wd_sel_yX4_append wd_ini_RX4 wd_code_yX4_append rfl rfl rfl hd_X4_append ⟨Nat.le_of_ble_eq_true rfl, Nat.le_of_ble_eq_true rfl⟩) ⟨in_blind, va_recv hK (pa_l (pa_r hPs)) (ci := 4) (q0 := 0) rfl rfl, k_pre hK (pa_l (pa_r hPs)) (da_l (da_r hDs)) hN⟩ rfl rfl hl.1 rfl (lv_room (Nat.le_of_ble_eq_true rfl)) dL_acts_409 ⟨Nat.le_of_ble_eq_true rfl, Nat.le_of_ble_eq_true rfl⟩) hPs hDs hS hA (fun r394 u395 H locs hw396 hP hD hS => ?_)
                    obtain ⟨f397, v398⟩ := u395
                    have hP := k_unP hP
                    have hD := k_unD hD
                    have hP : va_P D vwCl (DW cI cC cQ d0 n0 na s0 sa h1 h2 mm ma t0 p0 pa tk N S oo zz M0 M1 M2 M3 rs de pc pg f397 v398 po dd lt pl f1s s2s tms) H := hP
                    have hD : va_D A (DW cI cC cQ d0 n0 na s0 sa h1 h2 mm ma t0 p0 pa tk N S oo zz M0 M1 M2 M3 rs de pc pg f397 v398 po dd lt pl f1s s2s tms) := hD
                    have hw396 : (r394, f397, v398) = (sh_X4_append f385 v386 120) := hw396
                    have hq := kb_to hq hw396
                    refine lv_goto (tgt := 416) hx hb dL_acts_412 (by decide) ?_
                    refine lv_istore_n (lv' := [(3, .int r394), (5, .int (((x1 / 32) / 4) >>> ((5 * k4) &&& 31))), (4, .int k4), (2, .int (x1 / 32)), (0, .ref d0), (1, .int x1)]) hx hb dL_acts_416 rfl hl (by decide) rfl (fun ls hl => ?_)
                    refine lv_iload hx hb dL_acts_417 (lv_at hl 1 rfl) ?_
                    refine lv_bipush (v := 16) hx hb dL_acts_419 (by decide) ?_
                    refine lv_idiv hx hb dL_acts_421 (by decide) ?_
                    refine lv_iconst (v := 3) hx hb dL_acts_422 (by decide) ?_
                    refine lv_irem hx hb dL_acts_423 (by decide) ?_
                    refine lv_if_ne (tgt := 446) hx hb dL_acts_424 (by decide) (fun c399 => ?_) (fun c399 => ?_)
                    · have hq := it_neg hq c399
                      refine lv_iload_n hx hb dL_acts_446 rfl (lv_at hl 0 rfl) ?_
                      refine lv_istore_n (lv' := [(3, .int r394), (5, .int (((x1 / 32) / 4) >>> ((5 * k4) &&& 31))), (4, .int k4), (2, .int (x1 / 32)), (0, .ref d0), (1, .int x1)]) hx hb dL_acts_447 rfl hl (by decide) rfl (fun ls hl => ?_)
                      refine lv_goto (tgt := 535) hx hb dL_acts_448 (by decide) ?_
                      refine lv_iinc (v := (k4 + 1)) (lv' := [(4, .int (k4 + 1)), (3, .int r394), (5, .int (((x1 / 32) / 4) >>> ((5 * k4) &&& 31))), (2, .int (x1 / 32)), (0, .ref d0), (1, .int x1)]) hx hb dL_acts_535 hl (k := 2) rfl rfl (by decide) rfl (fun ls hl => ?_)
                      refine lv_goto (tgt := 248) hx hb dL_acts_538 (by decide) ?_
                      exact ih (r394) ((k4 + 1)) (f397) (v398) _ _ _ (k_mu hmu c127) ((padr_apd (padr_apd (padr_apd (padr_apd (padr_apd (padr_apd (padr_apd hpad1 hw307) hw344) hw349) hw354) hw359) hw384) hw396)) hq hP hD hS (lv_sub hl [0, 1, 3, 4, 5] rfl)
                    · have hq := it_pos hq c399
                      refine lv_aload_n hx hb dL_acts_427 rfl (lv_at hl 4 rfl) ?_
                      refine lv_bipush (v := 50) hx hb dL_acts_428 (by decide) ?_
                      refine lv_iload hx hb dL_acts_430 (lv_at hl 1 rfl) ?_
                      refine lv_sipush (v := 128) hx hb dL_acts_432 (by decide) ?_
                      refine lv_idiv hx hb dL_acts_435 (by decide) ?_
                      refine lv_bipush (v := 8) hx hb dL_acts_436 (by decide) ?_
                      refine lv_irem hx hb dL_acts_438 (by decide) ?_
                      refine lv_iadd hx hb dL_acts_439 ?_
                      have hPs := k_self hP
                      have hDs := k_selfD hD
                      refine k_behi (X := []) (Y := []) (va_runV (As := [.int (50 + (((((x1 / 32) / 4) >>> ((5 * k4) &&& 31)) / 128) - ((((x1 / 32) / 4) >>> ((5 * k4) &&& 31)) / 128) / 8 * 8))]) (rest := []) ⟨hx, hb, hml, hown, hts⟩ (c_X4_append l D cI cC cQ H.size d0 n0 na s0 sa h1 h2 mm ma t0 p0 pa tk N S oo zz M0 M1 M2 M3 rs de pc pg f397 v398 po dd lt pl f1s s2s tms (50 + (((((x1 / 32) / 4) >>> ((5 * k4) &&& 31)) / 128) - ((((x1 / 32) / 4) >>> ((5 * k4) &&& 31)) / 128) / 8 * 8)) ((padr_apd (padr_apd (padr_apd (padr_apd (padr_apd (padr_apd (padr_apd hpad1 hw307) hw344) hw349) hw354) hw359) hw384) hw396).1)) (kcwV hts wd_ml_RL_41 wd_im_yX4_append wd_sel_yX4_append wd_ini_RX4 wd_code_yX4_append rfl rfl rfl hd_X4_append ⟨Nat.le_of_ble_eq_true rfl, Nat.le_of_ble_eq_true rfl⟩) ⟨in_blind, va_recv hK (pa_l (pa_r hPs)) (ci := 4) (q0 := 0) rfl rfl, k_pre hK (pa_l (pa_r hPs)) (da_l (da_r hDs)) hN⟩ rfl rfl hl.1 rfl (lv_room (Nat.le_of_ble_eq_true rfl)) dL_acts_440 ⟨Nat.le_of_ble_eq_true rfl, Nat.le_of_ble_eq_true rfl⟩) hPs hDs hS hA (fun r400 u401 H locs hw402 hP hD hS => ?_)
                      obtain ⟨f403, v404⟩ := u401
                      have hP := k_unP hP
                      have hD := k_unD hD
                      have hP : va_P D vwCl (DW cI cC cQ d0 n0 na s0 sa h1 h2 mm ma t0 p0 pa tk N S oo zz M0 M1 M2 M3 rs de pc pg f403 v404 po dd lt pl f1s s2s tms) H := hP
                      have hD : va_D A (DW cI cC cQ d0 n0 na s0 sa h1 h2 mm ma t0 p0 pa tk N S oo zz M0 M1 M2 M3 rs de pc pg f403 v404 po dd lt pl f1s s2s tms) := hD
                      have hw402 : (r400, f403, v404) = (sh_X4_append f397 v398 (50 + (((((x1 / 32) / 4) >>> ((5 * k4) &&& 31)) / 128) - ((((x1 / 32) / 4) >>> ((5 * k4) &&& 31)) / 128) / 8 * 8))) := hw402
                      have hq := kb_to hq hw402
                      refine lv_goto (tgt := 447) hx hb dL_acts_443 (by decide) ?_
                      refine lv_istore_n (lv' := [(3, .int r400), (5, .int (((x1 / 32) / 4) >>> ((5 * k4) &&& 31))), (4, .int k4), (2, .int (x1 / 32)), (0, .ref d0), (1, .int x1)]) hx hb dL_acts_447 rfl hl (by decide) rfl (fun ls hl => ?_)
                      refine lv_goto (tgt := 535) hx hb dL_acts_448 (by decide) ?_
                      refine lv_iinc (v := (k4 + 1)) (lv' := [(4, .int (k4 + 1)), (3, .int r400), (5, .int (((x1 / 32) / 4) >>> ((5 * k4) &&& 31))), (2, .int (x1 / 32)), (0, .ref d0), (1, .int x1)]) hx hb dL_acts_535 hl (k := 2) rfl rfl (by decide) rfl (fun ls hl => ?_)
                      refine lv_goto (tgt := 248) hx hb dL_acts_538 (by decide) ?_
                      exact ih (r400) ((k4 + 1)) (f403) (v404) _ _ _ (k_mu hmu c127) ((padr_apd (padr_apd (padr_apd (padr_apd (padr_apd (padr_apd (padr_apd (padr_apd hpad1 hw307) hw344) hw349) hw354) hw359) hw384) hw396) hw402)) hq hP hD hS (lv_sub hl [0, 1, 3, 4, 5] rfl)
              · have hq := it_neg hq c362
                refine lv_aload_n hx hb dL_acts_347 rfl (lv_at hl 4 rfl) ?_
                refine lv_bipush (v := 48) hx hb dL_acts_348 (by decide) ?_
                refine lv_iload hx hb dL_acts_350 (lv_at hl 1 rfl) ?_
                refine lv_bipush (v := 32) hx hb dL_acts_352 (by decide) ?_
                refine lv_idiv hx hb dL_acts_354 (by decide) ?_
                refine lv_bipush (v := 10) hx hb dL_acts_355 (by decide) ?_
                refine lv_irem hx hb dL_acts_357 (by decide) ?_
                refine lv_iadd hx hb dL_acts_358 ?_
                have hPs := k_self hP
                have hDs := k_selfD hD
                refine k_behi (X := []) (Y := []) (va_runV (As := [.int (48 + (((((x1 / 32) / 4) >>> ((5 * k4) &&& 31)) / 32) - ((((x1 / 32) / 4) >>> ((5 * k4) &&& 31)) / 32) / 10 * 10))]) (rest := []) ⟨hx, hb, hml, hown, hts⟩ (c_X4_append l D cI cC cQ H.size d0 n0 na s0 sa h1 h2 mm ma t0 p0 pa tk N S oo zz M0 M1 M2 M3 rs de pc pg f360 v361 po dd lt pl f1s s2s tms (48 + (((((x1 / 32) / 4) >>> ((5 * k4) &&& 31)) / 32) - ((((x1 / 32) / 4) >>> ((5 * k4) &&& 31)) / 32) / 10 * 10)) ((padr_apd (padr_apd (padr_apd (padr_apd (padr_apd hpad1 hw307) hw344) hw349) hw354) hw359).1)) (kcwV hts wd_ml_RL_41 wd_im_yX4_append wd_sel_yX4_append wd_ini_RX4 wd_code_yX4_append rfl rfl rfl hd_X4_append ⟨Nat.le_of_ble_eq_true rfl, Nat.le_of_ble_eq_true rfl⟩) ⟨in_blind, va_recv hK (pa_l (pa_r hPs)) (ci := 4) (q0 := 0) rfl rfl, k_pre hK (pa_l (pa_r hPs)) (da_l (da_r hDs)) hN⟩ rfl rfl hl.1 rfl (lv_room (Nat.le_of_ble_eq_true rfl)) dL_acts_359 ⟨Nat.le_of_ble_eq_true rfl, Nat.le_of_ble_eq_true rfl⟩) hPs hDs hS hA (fun r405 u406 H locs hw407 hP hD hS => ?_)
                obtain ⟨f408, v409⟩ := u406
                have hP := k_unP hP
                have hD := k_unD hD
                have hP : va_P D vwCl (DW cI cC cQ d0 n0 na s0 sa h1 h2 mm ma t0 p0 pa tk N S oo zz M0 M1 M2 M3 rs de pc pg f408 v409 po dd lt pl f1s s2s tms) H := hP
                have hD : va_D A (DW cI cC cQ d0 n0 na s0 sa h1 h2 mm ma t0 p0 pa tk N S oo zz M0 M1 M2 M3 rs de pc pg f408 v409 po dd lt pl f1s s2s tms) := hD
                have hw407 : (r405, f408, v409) = (sh_X4_append f360 v361 (48 + (((((x1 / 32) / 4) >>> ((5 * k4) &&& 31)) / 32) - ((((x1 / 32) / 4) >>> ((5 * k4) &&& 31)) / 32) / 10 * 10))) := hw407
                have hq := kb_to hq hw407
                refine lv_goto (tgt := 366) hx hb dL_acts_362 (by decide) ?_
                refine lv_istore_n (lv' := [(3, .int r405), (5, .int (((x1 / 32) / 4) >>> ((5 * k4) &&& 31))), (4, .int k4), (2, .int (x1 / 32)), (0, .ref d0), (1, .int x1)]) hx hb dL_acts_366 rfl hl (by decide) rfl (fun ls hl => ?_)
                refine lv_iload hx hb dL_acts_367 (lv_at hl 1 rfl) ?_
                refine lv_bipush (v := 8) hx hb dL_acts_369 (by decide) ?_
                refine lv_irem hx hb dL_acts_371 (by decide) ?_
                refine lv_iconst (v := 1) hx hb dL_acts_372 (by decide) ?_
                refine lv_icmp_ge (tgt := 394) hx hb dL_acts_373 (by decide) (fun c410 => ?_) (fun c410 => ?_)
                · have hq := it_pos hq c410
                  refine lv_iload_n hx hb dL_acts_394 rfl (lv_at hl 0 rfl) ?_
                  refine lv_istore_n (lv' := [(3, .int r405), (5, .int (((x1 / 32) / 4) >>> ((5 * k4) &&& 31))), (4, .int k4), (2, .int (x1 / 32)), (0, .ref d0), (1, .int x1)]) hx hb dL_acts_395 rfl hl (by decide) rfl (fun ls hl => ?_)
                  refine lv_iload hx hb dL_acts_396 (lv_at hl 1 rfl) ?_
                  refine lv_bipush (v := 16) hx hb dL_acts_398 (by decide) ?_
                  refine lv_idiv hx hb dL_acts_400 (by decide) ?_
                  refine lv_iconst (v := 3) hx hb dL_acts_401 (by decide) ?_
                  refine lv_irem hx hb dL_acts_402 (by decide) ?_
                  refine lv_if_ne (tgt := 415) hx hb dL_acts_403 (by decide) (fun c411 => ?_) (fun c411 => ?_)
                  · have hq := it_neg hq c411
                    refine lv_iload_n hx hb dL_acts_415 rfl (lv_at hl 0 rfl) ?_
                    refine lv_istore_n (lv' := [(3, .int r405), (5, .int (((x1 / 32) / 4) >>> ((5 * k4) &&& 31))), (4, .int k4), (2, .int (x1 / 32)), (0, .ref d0), (1, .int x1)]) hx hb dL_acts_416 rfl hl (by decide) rfl (fun ls hl => ?_)
                    refine lv_iload hx hb dL_acts_417 (lv_at hl 1 rfl) ?_
                    refine lv_bipush (v := 16) hx hb dL_acts_419 (by decide) ?_
                    refine lv_idiv hx hb dL_acts_421 (by decide) ?_
                    refine lv_iconst (v := 3) hx hb dL_acts_422 (by decide) ?_
                    refine lv_irem hx hb dL_acts_423 (by decide) ?_
                    refine lv_if_ne (tgt := 446) hx hb dL_acts_424 (by decide) (fun c412 => ?_) (fun c412 => ?_)
                    · have hq := it_neg hq c412
                      refine lv_iload_n hx hb dL_acts_446 rfl (lv_at hl 0 rfl) ?_
                      refine lv_istore_n (lv' := [(3, .int r405), (5, .int (((x1 / 32) / 4) >>> ((5 * k4) &&& 31))), (4, .int k4), (2, .int (x1 / 32)), (0, .ref d0), (1, .int x1)]) hx hb dL_acts_447 rfl hl (by decide) rfl (fun ls hl => ?_)
                      refine lv_goto (tgt := 535) hx hb dL_acts_448 (by decide) ?_
                      refine lv_iinc (v := (k4 + 1)) (lv' := [(4, .int (k4 + 1)), (3, .int r405), (5, .int (((x1 / 32) / 4) >>> ((5 * k4) &&& 31))), (2, .int (x1 / 32)), (0, .ref d0), (1, .int x1)]) hx hb dL_acts_535 hl (k := 2) rfl rfl (by decide) rfl (fun ls hl => ?_)
                      refine lv_goto (tgt := 248) hx hb dL_acts_538 (by decide) ?_
                      exact ih (r405) ((k4 + 1)) (f408) (v409) _ _ _ (k_mu hmu c127) ((padr_apd (padr_apd (padr_apd (padr_apd (padr_apd (padr_apd hpad1 hw307) hw344) hw349) hw354) hw359) hw407)) hq hP hD hS (lv_sub hl [0, 1, 3, 4, 5] rfl)
                    · have hq := it_pos hq c412
                      refine lv_aload_n hx hb dL_acts_427 rfl (lv_at hl 4 rfl) ?_
                      refine lv_bipush (v := 50) hx hb dL_acts_428 (by decide) ?_
                      refine lv_iload hx hb dL_acts_430 (lv_at hl 1 rfl) ?_
                      refine lv_sipush (v := 128) hx hb dL_acts_432 (by decide) ?_
                      refine lv_idiv hx hb dL_acts_435 (by decide) ?_
                      refine lv_bipush (v := 8) hx hb dL_acts_436 (by decide) ?_
                      refine lv_irem hx hb dL_acts_438 (by decide) ?_
                      refine lv_iadd hx hb dL_acts_439 ?_
                      have hPs := k_self hP
                      have hDs := k_selfD hD
                      refine k_behi (X := []) (Y := []) (va_runV (As := [.int (50 + (((((x1 / 32) / 4) >>> ((5 * k4) &&& 31)) / 128) - ((((x1 / 32) / 4) >>> ((5 * k4) &&& 31)) / 128) / 8 * 8))]) (rest := []) ⟨hx, hb, hml, hown, hts⟩ (c_X4_append l D cI cC cQ H.size d0 n0 na s0 sa h1 h2 mm ma t0 p0 pa tk N S oo zz M0 M1 M2 M3 rs de pc pg f408 v409 po dd lt pl f1s s2s tms (50 + (((((x1 / 32) / 4) >>> ((5 * k4) &&& 31)) / 128) - ((((x1 / 32) / 4) >>> ((5 * k4) &&& 31)) / 128) / 8 * 8)) ((padr_apd (padr_apd (padr_apd (padr_apd (padr_apd (padr_apd hpad1 hw307) hw344) hw349) hw354) hw359) hw407).1)) (kcwV hts wd_ml_RL_41 wd_im_yX4_append wd_sel_yX4_append wd_ini_RX4 wd_code_yX4_append rfl rfl rfl hd_X4_append ⟨Nat.le_of_ble_eq_true rfl, Nat.le_of_ble_eq_true rfl⟩) ⟨in_blind, va_recv hK (pa_l (pa_r hPs)) (ci := 4) (q0 := 0) rfl rfl, k_pre hK (pa_l (pa_r hPs)) (da_l (da_r hDs)) hN⟩ rfl rfl hl.1 rfl (lv_room (Nat.le_of_ble_eq_true rfl)) dL_acts_440 ⟨Nat.le_of_ble_eq_true rfl, Nat.le_of_ble_eq_true rfl⟩) hPs hDs hS hA (fun r413 u414 H locs hw415 hP hD hS => ?_)
                      obtain ⟨f416, v417⟩ := u414
                      have hP := k_unP hP
                      have hD := k_unD hD
                      have hP : va_P D vwCl (DW cI cC cQ d0 n0 na s0 sa h1 h2 mm ma t0 p0 pa tk N S oo zz M0 M1 M2 M3 rs de pc pg f416 v417 po dd lt pl f1s s2s tms) H := hP
                      have hD : va_D A (DW cI cC cQ d0 n0 na s0 sa h1 h2 mm ma t0 p0 pa tk N S oo zz M0 M1 M2 M3 rs de pc pg f416 v417 po dd lt pl f1s s2s tms) := hD
                      have hw415 : (r413, f416, v417) = (sh_X4_append f408 v409 (50 + (((((x1 / 32) / 4) >>> ((5 * k4) &&& 31)) / 128) - ((((x1 / 32) / 4) >>> ((5 * k4) &&& 31)) / 128) / 8 * 8))) := hw415
                      have hq := kb_to hq hw415
                      refine lv_goto (tgt := 447) hx hb dL_acts_443 (by decide) ?_
                      refine lv_istore_n (lv' := [(3, .int r413), (5, .int (((x1 / 32) / 4) >>> ((5 * k4) &&& 31))), (4, .int k4), (2, .int (x1 / 32)), (0, .ref d0), (1, .int x1)]) hx hb dL_acts_447 rfl hl (by decide) rfl (fun ls hl => ?_)
                      refine lv_goto (tgt := 535) hx hb dL_acts_448 (by decide) ?_
                      refine lv_iinc (v := (k4 + 1)) (lv' := [(4, .int (k4 + 1)), (3, .int r413), (5, .int (((x1 / 32) / 4) >>> ((5 * k4) &&& 31))), (2, .int (x1 / 32)), (0, .ref d0), (1, .int x1)]) hx hb dL_acts_535 hl (k := 2) rfl rfl (by decide) rfl (fun ls hl => ?_)
                      refine lv_goto (tgt := 248) hx hb dL_acts_538 (by decide) ?_
                      exact ih (r413) ((k4 + 1)) (f416) (v417) _ _ _ (k_mu hmu c127) ((padr_apd (padr_apd (padr_apd (padr_apd (padr_apd (padr_apd (padr_apd hpad1 hw307) hw344) hw349) hw354) hw359) hw407) hw415)) hq hP hD hS (lv_sub hl [0, 1, 3, 4, 5] rfl)
                  · have hq := it_pos hq c411
                    refine lv_aload_n hx hb dL_acts_406 rfl (lv_at hl 4 rfl) ?_
                    refine lv_bipush (v := 120) hx hb dL_acts_407 (by decide) ?_
                    have hPs := k_self hP
                    have hDs := k_selfD hD
                    refine k_behi (X := []) (Y := []) (va_runV (As := [.int 120]) (rest := []) ⟨hx, hb, hml, hown, hts⟩ (c_X4_append l D cI cC cQ H.size d0 n0 na s0 sa h1 h2 mm ma t0 p0 pa tk N S oo zz M0 M1 M2 M3 rs de pc pg f408 v409 po dd lt pl f1s s2s tms 120 ((padr_apd (padr_apd (padr_apd (padr_apd (padr_apd (padr_apd hpad1 hw307) hw344) hw349) hw354) hw359) hw407).1)) (kcwV hts wd_ml_RL_41 wd_im_yX4_append wd_sel_yX4_append wd_ini_RX4 wd_code_yX4_append rfl rfl rfl hd_X4_append ⟨Nat.le_of_ble_eq_true rfl, Nat.le_of_ble_eq_true rfl⟩) ⟨in_blind, va_recv hK (pa_l (pa_r hPs)) (ci := 4) (q0 := 0) rfl rfl, k_pre hK (pa_l (pa_r hPs)) (da_l (da_r hDs)) hN⟩ rfl rfl hl.1 rfl (lv_room (Nat.le_of_ble_eq_true rfl)) dL_acts_409 ⟨Nat.le_of_ble_eq_true rfl, Nat.le_of_ble_eq_true rfl⟩) hPs hDs hS hA (fun r418 u419 H locs hw420 hP hD hS => ?_)
                    obtain ⟨f421, v422⟩ := u419
                    have hP := k_unP hP
                    have hD := k_unD hD
                    have hP : va_P D vwCl (DW cI cC cQ d0 n0 na s0 sa h1 h2 mm ma t0 p0 pa tk N S oo zz M0 M1 M2 M3 rs de pc pg f421 v422 po dd lt pl f1s s2s tms) H := hP
                    have hD : va_D A (DW cI cC cQ d0 n0 na s0 sa h1 h2 mm ma t0 p0 pa tk N S oo zz M0 M1 M2 M3 rs de pc pg f421 v422 po dd lt pl f1s s2s tms) := hD
                    have hw420 : (r418, f421, v422) = (sh_X4_append f408 v409 120) := hw420
                    have hq := kb_to hq hw420
                    refine lv_goto (tgt := 416) hx hb dL_acts_412 (by decide) ?_
                    refine lv_istore_n (lv' := [(3, .int r418), (5, .int (((x1 / 32) / 4) >>> ((5 * k4) &&& 31))), (4, .int k4), (2, .int (x1 / 32)), (0, .ref d0), (1, .int x1)]) hx hb dL_acts_416 rfl hl (by decide) rfl (fun ls hl => ?_)
                    refine lv_iload hx hb dL_acts_417 (lv_at hl 1 rfl) ?_
                    refine lv_bipush (v := 16) hx hb dL_acts_419 (by decide) ?_
                    refine lv_idiv hx hb dL_acts_421 (by decide) ?_
                    refine lv_iconst (v := 3) hx hb dL_acts_422 (by decide) ?_
                    refine lv_irem hx hb dL_acts_423 (by decide) ?_
                    refine lv_if_ne (tgt := 446) hx hb dL_acts_424 (by decide) (fun c423 => ?_) (fun c423 => ?_)
                    · have hq := it_neg hq c423
                      refine lv_iload_n hx hb dL_acts_446 rfl (lv_at hl 0 rfl) ?_
                      refine lv_istore_n (lv' := [(3, .int r418), (5, .int (((x1 / 32) / 4) >>> ((5 * k4) &&& 31))), (4, .int k4), (2, .int (x1 / 32)), (0, .ref d0), (1, .int x1)]) hx hb dL_acts_447 rfl hl (by decide) rfl (fun ls hl => ?_)
                      refine lv_goto (tgt := 535) hx hb dL_acts_448 (by decide) ?_
                      refine lv_iinc (v := (k4 + 1)) (lv' := [(4, .int (k4 + 1)), (3, .int r418), (5, .int (((x1 / 32) / 4) >>> ((5 * k4) &&& 31))), (2, .int (x1 / 32)), (0, .ref d0), (1, .int x1)]) hx hb dL_acts_535 hl (k := 2) rfl rfl (by decide) rfl (fun ls hl => ?_)
                      refine lv_goto (tgt := 248) hx hb dL_acts_538 (by decide) ?_
                      exact ih (r418) ((k4 + 1)) (f421) (v422) _ _ _ (k_mu hmu c127) ((padr_apd (padr_apd (padr_apd (padr_apd (padr_apd (padr_apd (padr_apd hpad1 hw307) hw344) hw349) hw354) hw359) hw407) hw420)) hq hP hD hS (lv_sub hl [0, 1, 3, 4, 5] rfl)
                    · have hq := it_pos hq c423
                      refine lv_aload_n hx hb dL_acts_427 rfl (lv_at hl 4 rfl) ?_
                      refine lv_bipush (v := 50) hx hb dL_acts_428 (by decide) ?_
                      refine lv_iload hx hb dL_acts_430 (lv_at hl 1 rfl) ?_
                      refine lv_sipush (v := 128) hx hb dL_acts_432 (by decide) ?_
                      refine lv_idiv hx hb dL_acts_435 (by decide) ?_
                      refine lv_bipush (v := 8) hx hb dL_acts_436 (by decide) ?_
                      refine lv_irem hx hb dL_acts_438 (by decide) ?_
                      refine lv_iadd hx hb dL_acts_439 ?_
                      have hPs := k_self hP
                      have hDs := k_selfD hD
                      refine k_behi (X := []) (Y := []) (va_runV (As := [.int (50 + (((((x1 / 32) / 4) >>> ((5 * k4) &&& 31)) / 128) - ((((x1 / 32) / 4) >>> ((5 * k4) &&& 31)) / 128) / 8 * 8))]) (rest := []) ⟨hx, hb, hml, hown, hts⟩ (c_X4_append l D cI cC cQ H.size d0 n0 na s0 sa h1 h2 mm ma t0 p0 pa tk N S oo zz M0 M1 M2 M3 rs de pc pg f421 v422 po dd lt pl f1s s2s tms (50 + (((((x1 / 32) / 4) >>> ((5 * k4) &&& 31)) / 128) - ((((x1 / 32) / 4) >>> ((5 * k4) &&& 31)) / 128) / 8 * 8)) ((padr_apd (padr_apd (padr_apd (padr_apd (padr_apd (padr_apd (padr_apd hpad1 hw307) hw344) hw349) hw354) hw359) hw407) hw420).1)) (kcwV hts wd_ml_RL_41 wd_im_yX4_append wd_sel_yX4_append wd_ini_RX4 wd_code_yX4_append rfl rfl rfl hd_X4_append ⟨Nat.le_of_ble_eq_true rfl, Nat.le_of_ble_eq_true rfl⟩) ⟨in_blind, va_recv hK (pa_l (pa_r hPs)) (ci := 4) (q0 := 0) rfl rfl, k_pre hK (pa_l (pa_r hPs)) (da_l (da_r hDs)) hN⟩ rfl rfl hl.1 rfl (lv_room (Nat.le_of_ble_eq_true rfl)) dL_acts_440 ⟨Nat.le_of_ble_eq_true rfl, Nat.le_of_ble_eq_true rfl⟩) hPs hDs hS hA (fun r424 u425 H locs hw426 hP hD hS => ?_)
                      obtain ⟨f427, v428⟩ := u425
                      have hP := k_unP hP
                      have hD := k_unD hD
                      have hP : va_P D vwCl (DW cI cC cQ d0 n0 na s0 sa h1 h2 mm ma t0 p0 pa tk N S oo zz M0 M1 M2 M3 rs de pc pg f427 v428 po dd lt pl f1s s2s tms) H := hP
                      have hD : va_D A (DW cI cC cQ d0 n0 na s0 sa h1 h2 mm ma t0 p0 pa tk N S oo zz M0 M1 M2 M3 rs de pc pg f427 v428 po dd lt pl f1s s2s tms) := hD
                      have hw426 : (r424, f427, v428) = (sh_X4_append f421 v422 (50 + (((((x1 / 32) / 4) >>> ((5 * k4) &&& 31)) / 128) - ((((x1 / 32) / 4) >>> ((5 * k4) &&& 31)) / 128) / 8 * 8))) := hw426
                      have hq := kb_to hq hw426
                      refine lv_goto (tgt := 447) hx hb dL_acts_443 (by decide) ?_
                      refine lv_istore_n (lv' := [(3, .int r424), (5, .int (((x1 / 32) / 4) >>> ((5 * k4) &&& 31))), (4, .int k4), (2, .int (x1 / 32)), (0, .ref d0), (1, .int x1)]) hx hb dL_acts_447 rfl hl (by decide) rfl (fun ls hl => ?_)
                      refine lv_goto (tgt := 535) hx hb dL_acts_448 (by decide) ?_
                      refine lv_iinc (v := (k4 + 1)) (lv' := [(4, .int (k4 + 1)), (3, .int r424), (5, .int (((x1 / 32) / 4) >>> ((5 * k4) &&& 31))), (2, .int (x1 / 32)), (0, .ref d0), (1, .int x1)]) hx hb dL_acts_535 hl (k := 2) rfl rfl (by decide) rfl (fun ls hl => ?_)
                      refine lv_goto (tgt := 248) hx hb dL_acts_538 (by decide) ?_
                      exact ih (r424) ((k4 + 1)) (f427) (v428) _ _ _ (k_mu hmu c127) ((padr_apd (padr_apd (padr_apd (padr_apd (padr_apd (padr_apd (padr_apd (padr_apd hpad1 hw307) hw344) hw349) hw354) hw359) hw407) hw420) hw426)) hq hP hD hS (lv_sub hl [0, 1, 3, 4, 5] rfl)
                · have hq := it_neg hq c410
                  refine lv_aload_n hx hb dL_acts_376 rfl (lv_at hl 4 rfl) ?_
                  refine lv_bipush (v := 48) hx hb dL_acts_377 (by decide) ?_
                  refine lv_iload hx hb dL_acts_379 (lv_at hl 1 rfl) ?_
                  refine lv_bipush (v := 64) hx hb dL_acts_381 (by decide) ?_
                  refine lv_idiv hx hb dL_acts_383 (by decide) ?_
                  refine lv_bipush (v := 10) hx hb dL_acts_384 (by decide) ?_
                  refine lv_irem hx hb dL_acts_386 (by decide) ?_
                  refine lv_iadd hx hb dL_acts_387 ?_
                  have hPs := k_self hP
                  have hDs := k_selfD hD
                  refine k_behi (X := []) (Y := []) (va_runV (As := [.int (48 + (((((x1 / 32) / 4) >>> ((5 * k4) &&& 31)) / 64) - ((((x1 / 32) / 4) >>> ((5 * k4) &&& 31)) / 64) / 10 * 10))]) (rest := []) ⟨hx, hb, hml, hown, hts⟩ (c_X4_append l D cI cC cQ H.size d0 n0 na s0 sa h1 h2 mm ma t0 p0 pa tk N S oo zz M0 M1 M2 M3 rs de pc pg f408 v409 po dd lt pl f1s s2s tms (48 + (((((x1 / 32) / 4) >>> ((5 * k4) &&& 31)) / 64) - ((((x1 / 32) / 4) >>> ((5 * k4) &&& 31)) / 64) / 10 * 10)) ((padr_apd (padr_apd (padr_apd (padr_apd (padr_apd (padr_apd hpad1 hw307) hw344) hw349) hw354) hw359) hw407).1)) (kcwV hts wd_ml_RL_41 wd_im_yX4_append wd_sel_yX4_append wd_ini_RX4 wd_code_yX4_append rfl rfl rfl hd_X4_append ⟨Nat.le_of_ble_eq_true rfl, Nat.le_of_ble_eq_true rfl⟩) ⟨in_blind, va_recv hK (pa_l (pa_r hPs)) (ci := 4) (q0 := 0) rfl rfl, k_pre hK (pa_l (pa_r hPs)) (da_l (da_r hDs)) hN⟩ rfl rfl hl.1 rfl (lv_room (Nat.le_of_ble_eq_true rfl)) dL_acts_388 ⟨Nat.le_of_ble_eq_true rfl, Nat.le_of_ble_eq_true rfl⟩) hPs hDs hS hA (fun r429 u430 H locs hw431 hP hD hS => ?_)
                  obtain ⟨f432, v433⟩ := u430
                  have hP := k_unP hP
                  have hD := k_unD hD
                  have hP : va_P D vwCl (DW cI cC cQ d0 n0 na s0 sa h1 h2 mm ma t0 p0 pa tk N S oo zz M0 M1 M2 M3 rs de pc pg f432 v433 po dd lt pl f1s s2s tms) H := hP
                  have hD : va_D A (DW cI cC cQ d0 n0 na s0 sa h1 h2 mm ma t0 p0 pa tk N S oo zz M0 M1 M2 M3 rs de pc pg f432 v433 po dd lt pl f1s s2s tms) := hD
                  have hw431 : (r429, f432, v433) = (sh_X4_append f408 v409 (48 + (((((x1 / 32) / 4) >>> ((5 * k4) &&& 31)) / 64) - ((((x1 / 32) / 4) >>> ((5 * k4) &&& 31)) / 64) / 10 * 10))) := hw431
                  have hq := kb_to hq hw431
                  refine lv_goto (tgt := 395) hx hb dL_acts_391 (by decide) ?_
                  refine lv_istore_n (lv' := [(3, .int r429), (5, .int (((x1 / 32) / 4) >>> ((5 * k4) &&& 31))), (4, .int k4), (2, .int (x1 / 32)), (0, .ref d0), (1, .int x1)]) hx hb dL_acts_395 rfl hl (by decide) rfl (fun ls hl => ?_)
                  refine lv_iload hx hb dL_acts_396 (lv_at hl 1 rfl) ?_
                  refine lv_bipush (v := 16) hx hb dL_acts_398 (by decide) ?_
                  refine lv_idiv hx hb dL_acts_400 (by decide) ?_
                  refine lv_iconst (v := 3) hx hb dL_acts_401 (by decide) ?_
                  refine lv_irem hx hb dL_acts_402 (by decide) ?_
                  refine lv_if_ne (tgt := 415) hx hb dL_acts_403 (by decide) (fun c434 => ?_) (fun c434 => ?_)
                  · have hq := it_neg hq c434
                    refine lv_iload_n hx hb dL_acts_415 rfl (lv_at hl 0 rfl) ?_
                    refine lv_istore_n (lv' := [(3, .int r429), (5, .int (((x1 / 32) / 4) >>> ((5 * k4) &&& 31))), (4, .int k4), (2, .int (x1 / 32)), (0, .ref d0), (1, .int x1)]) hx hb dL_acts_416 rfl hl (by decide) rfl (fun ls hl => ?_)
                    refine lv_iload hx hb dL_acts_417 (lv_at hl 1 rfl) ?_
                    refine lv_bipush (v := 16) hx hb dL_acts_419 (by decide) ?_
                    refine lv_idiv hx hb dL_acts_421 (by decide) ?_
                    refine lv_iconst (v := 3) hx hb dL_acts_422 (by decide) ?_
                    refine lv_irem hx hb dL_acts_423 (by decide) ?_
                    refine lv_if_ne (tgt := 446) hx hb dL_acts_424 (by decide) (fun c435 => ?_) (fun c435 => ?_)
                    · have hq := it_neg hq c435
                      refine lv_iload_n hx hb dL_acts_446 rfl (lv_at hl 0 rfl) ?_
                      refine lv_istore_n (lv' := [(3, .int r429), (5, .int (((x1 / 32) / 4) >>> ((5 * k4) &&& 31))), (4, .int k4), (2, .int (x1 / 32)), (0, .ref d0), (1, .int x1)]) hx hb dL_acts_447 rfl hl (by decide) rfl (fun ls hl => ?_)
                      refine lv_goto (tgt := 535) hx hb dL_acts_448 (by decide) ?_
                      refine lv_iinc (v := (k4 + 1)) (lv' := [(4, .int (k4 + 1)), (3, .int r429), (5, .int (((x1 / 32) / 4) >>> ((5 * k4) &&& 31))), (2, .int (x1 / 32)), (0, .ref d0), (1, .int x1)]) hx hb dL_acts_535 hl (k := 2) rfl rfl (by decide) rfl (fun ls hl => ?_)
                      refine lv_goto (tgt := 248) hx hb dL_acts_538 (by decide) ?_
                      exact ih (r429) ((k4 + 1)) (f432) (v433) _ _ _ (k_mu hmu c127) ((padr_apd (padr_apd (padr_apd (padr_apd (padr_apd (padr_apd (padr_apd hpad1 hw307) hw344) hw349) hw354) hw359) hw407) hw431)) hq hP hD hS (lv_sub hl [0, 1, 3, 4, 5] rfl)
                    · have hq := it_pos hq c435
                      refine lv_aload_n hx hb dL_acts_427 rfl (lv_at hl 4 rfl) ?_
                      refine lv_bipush (v := 50) hx hb dL_acts_428 (by decide) ?_
                      refine lv_iload hx hb dL_acts_430 (lv_at hl 1 rfl) ?_
                      refine lv_sipush (v := 128) hx hb dL_acts_432 (by decide) ?_
                      refine lv_idiv hx hb dL_acts_435 (by decide) ?_
                      refine lv_bipush (v := 8) hx hb dL_acts_436 (by decide) ?_
                      refine lv_irem hx hb dL_acts_438 (by decide) ?_
                      refine lv_iadd hx hb dL_acts_439 ?_
                      have hPs := k_self hP
                      have hDs := k_selfD hD
                      refine k_behi (X := []) (Y := []) (va_runV (As := [.int (50 + (((((x1 / 32) / 4) >>> ((5 * k4) &&& 31)) / 128) - ((((x1 / 32) / 4) >>> ((5 * k4) &&& 31)) / 128) / 8 * 8))]) (rest := []) ⟨hx, hb, hml, hown, hts⟩ (c_X4_append l D cI cC cQ H.size d0 n0 na s0 sa h1 h2 mm ma t0 p0 pa tk N S oo zz M0 M1 M2 M3 rs de pc pg f432 v433 po dd lt pl f1s s2s tms (50 + (((((x1 / 32) / 4) >>> ((5 * k4) &&& 31)) / 128) - ((((x1 / 32) / 4) >>> ((5 * k4) &&& 31)) / 128) / 8 * 8)) ((padr_apd (padr_apd (padr_apd (padr_apd (padr_apd (padr_apd (padr_apd hpad1 hw307) hw344) hw349) hw354) hw359) hw407) hw431).1)) (kcwV hts wd_ml_RL_41 wd_im_yX4_append wd_sel_yX4_append wd_ini_RX4 wd_code_yX4_append rfl rfl rfl hd_X4_append ⟨Nat.le_of_ble_eq_true rfl, Nat.le_of_ble_eq_true rfl⟩) ⟨in_blind, va_recv hK (pa_l (pa_r hPs)) (ci := 4) (q0 := 0) rfl rfl, k_pre hK (pa_l (pa_r hPs)) (da_l (da_r hDs)) hN⟩ rfl rfl hl.1 rfl (lv_room (Nat.le_of_ble_eq_true rfl)) dL_acts_440 ⟨Nat.le_of_ble_eq_true rfl, Nat.le_of_ble_eq_true rfl⟩) hPs hDs hS hA (fun r436 u437 H locs hw438 hP hD hS => ?_)
                      obtain ⟨f439, v440⟩ := u437
                      have hP := k_unP hP
                      have hD := k_unD hD
                      have hP : va_P D vwCl (DW cI cC cQ d0 n0 na s0 sa h1 h2 mm ma t0 p0 pa tk N S oo zz M0 M1 M2 M3 rs de pc pg f439 v440 po dd lt pl f1s s2s tms) H := hP
                      have hD : va_D A (DW cI cC cQ d0 n0 na s0 sa h1 h2 mm ma t0 p0 pa tk N S oo zz M0 M1 M2 M3 rs de pc pg f439 v440 po dd lt pl f1s s2s tms) := hD
                      have hw438 : (r436, f439, v440) = (sh_X4_append f432 v433 (50 + (((((x1 / 32) / 4) >>> ((5 * k4) &&& 31)) / 128) - ((((x1 / 32) / 4) >>> ((5 * k4) &&& 31)) / 128) / 8 * 8))) := hw438
                      have hq := kb_to hq hw438
                      refine lv_goto (tgt := 447) hx hb dL_acts_443 (by decide) ?_
                      refine lv_istore_n (lv' := [(3, .int r436), (5, .int (((x1 / 32) / 4) >>> ((5 * k4) &&& 31))), (4, .int k4), (2, .int (x1 / 32)), (0, .ref d0), (1, .int x1)]) hx hb dL_acts_447 rfl hl (by decide) rfl (fun ls hl => ?_)
                      refine lv_goto (tgt := 535) hx hb dL_acts_448 (by decide) ?_
                      refine lv_iinc (v := (k4 + 1)) (lv' := [(4, .int (k4 + 1)), (3, .int r436), (5, .int (((x1 / 32) / 4) >>> ((5 * k4) &&& 31))), (2, .int (x1 / 32)), (0, .ref d0), (1, .int x1)]) hx hb dL_acts_535 hl (k := 2) rfl rfl (by decide) rfl (fun ls hl => ?_)
                      refine lv_goto (tgt := 248) hx hb dL_acts_538 (by decide) ?_
                      exact ih (r436) ((k4 + 1)) (f439) (v440) _ _ _ (k_mu hmu c127) ((padr_apd (padr_apd (padr_apd (padr_apd (padr_apd (padr_apd (padr_apd (padr_apd hpad1 hw307) hw344) hw349) hw354) hw359) hw407) hw431) hw438)) hq hP hD hS (lv_sub hl [0, 1, 3, 4, 5] rfl)
                  · have hq := it_pos hq c434
                    refine lv_aload_n hx hb dL_acts_406 rfl (lv_at hl 4 rfl) ?_
                    refine lv_bipush (v := 120) hx hb dL_acts_407 (by decide) ?_
                    have hPs := k_self hP
                    have hDs := k_selfD hD
                    refine k_behi (X := []) (Y := []) (va_runV (As := [.int 120]) (rest := []) ⟨hx, hb, hml, hown, hts⟩ (c_X4_append l D cI cC cQ H.size d0 n0 na s0 sa h1 h2 mm ma t0 p0 pa tk N S oo zz M0 M1 M2 M3 rs de pc pg f432 v433 po dd lt pl f1s s2s tms 120 ((padr_apd (padr_apd (padr_apd (padr_apd (padr_apd (padr_apd (padr_apd hpad1 hw307) hw344) hw349) hw354) hw359) hw407) hw431).1)) (kcwV hts wd_ml_RL_41 wd_im_yX4_append wd_sel_yX4_append wd_ini_RX4 wd_code_yX4_append rfl rfl rfl hd_X4_append ⟨Nat.le_of_ble_eq_true rfl, Nat.le_of_ble_eq_true rfl⟩) ⟨in_blind, va_recv hK (pa_l (pa_r hPs)) (ci := 4) (q0 := 0) rfl rfl, k_pre hK (pa_l (pa_r hPs)) (da_l (da_r hDs)) hN⟩ rfl rfl hl.1 rfl (lv_room (Nat.le_of_ble_eq_true rfl)) dL_acts_409 ⟨Nat.le_of_ble_eq_true rfl, Nat.le_of_ble_eq_true rfl⟩) hPs hDs hS hA (fun r441 u442 H locs hw443 hP hD hS => ?_)
                    obtain ⟨f444, v445⟩ := u442
                    have hP := k_unP hP
                    have hD := k_unD hD
                    have hP : va_P D vwCl (DW cI cC cQ d0 n0 na s0 sa h1 h2 mm ma t0 p0 pa tk N S oo zz M0 M1 M2 M3 rs de pc pg f444 v445 po dd lt pl f1s s2s tms) H := hP
                    have hD : va_D A (DW cI cC cQ d0 n0 na s0 sa h1 h2 mm ma t0 p0 pa tk N S oo zz M0 M1 M2 M3 rs de pc pg f444 v445 po dd lt pl f1s s2s tms) := hD
                    have hw443 : (r441, f444, v445) = (sh_X4_append f432 v433 120) := hw443
                    have hq := kb_to hq hw443
                    refine lv_goto (tgt := 416) hx hb dL_acts_412 (by decide) ?_
                    refine lv_istore_n (lv' := [(3, .int r441), (5, .int (((x1 / 32) / 4) >>> ((5 * k4) &&& 31))), (4, .int k4), (2, .int (x1 / 32)), (0, .ref d0), (1, .int x1)]) hx hb dL_acts_416 rfl hl (by decide) rfl (fun ls hl => ?_)
                    refine lv_iload hx hb dL_acts_417 (lv_at hl 1 rfl) ?_
                    refine lv_bipush (v := 16) hx hb dL_acts_419 (by decide) ?_
                    refine lv_idiv hx hb dL_acts_421 (by decide) ?_
                    refine lv_iconst (v := 3) hx hb dL_acts_422 (by decide) ?_
                    refine lv_irem hx hb dL_acts_423 (by decide) ?_
                    refine lv_if_ne (tgt := 446) hx hb dL_acts_424 (by decide) (fun c446 => ?_) (fun c446 => ?_)
                    · have hq := it_neg hq c446
                      refine lv_iload_n hx hb dL_acts_446 rfl (lv_at hl 0 rfl) ?_
                      refine lv_istore_n (lv' := [(3, .int r441), (5, .int (((x1 / 32) / 4) >>> ((5 * k4) &&& 31))), (4, .int k4), (2, .int (x1 / 32)), (0, .ref d0), (1, .int x1)]) hx hb dL_acts_447 rfl hl (by decide) rfl (fun ls hl => ?_)
                      refine lv_goto (tgt := 535) hx hb dL_acts_448 (by decide) ?_
                      refine lv_iinc (v := (k4 + 1)) (lv' := [(4, .int (k4 + 1)), (3, .int r441), (5, .int (((x1 / 32) / 4) >>> ((5 * k4) &&& 31))), (2, .int (x1 / 32)), (0, .ref d0), (1, .int x1)]) hx hb dL_acts_535 hl (k := 2) rfl rfl (by decide) rfl (fun ls hl => ?_)
                      refine lv_goto (tgt := 248) hx hb dL_acts_538 (by decide) ?_
                      exact ih (r441) ((k4 + 1)) (f444) (v445) _ _ _ (k_mu hmu c127) ((padr_apd (padr_apd (padr_apd (padr_apd (padr_apd (padr_apd (padr_apd (padr_apd hpad1 hw307) hw344) hw349) hw354) hw359) hw407) hw431) hw443)) hq hP hD hS (lv_sub hl [0, 1, 3, 4, 5] rfl)
                    · have hq := it_pos hq c446
                      refine lv_aload_n hx hb dL_acts_427 rfl (lv_at hl 4 rfl) ?_
                      refine lv_bipush (v := 50) hx hb dL_acts_428 (by decide) ?_
                      refine lv_iload hx hb dL_acts_430 (lv_at hl 1 rfl) ?_
                      refine lv_sipush (v := 128) hx hb dL_acts_432 (by decide) ?_
                      refine lv_idiv hx hb dL_acts_435 (by decide) ?_
                      refine lv_bipush (v := 8) hx hb dL_acts_436 (by decide) ?_
                      refine lv_irem hx hb dL_acts_438 (by decide) ?_
                      refine lv_iadd hx hb dL_acts_439 ?_
                      have hPs := k_self hP
                      have hDs := k_selfD hD
                      refine k_behi (X := []) (Y := []) (va_runV (As := [.int (50 + (((((x1 / 32) / 4) >>> ((5 * k4) &&& 31)) / 128) - ((((x1 / 32) / 4) >>> ((5 * k4) &&& 31)) / 128) / 8 * 8))]) (rest := []) ⟨hx, hb, hml, hown, hts⟩ (c_X4_append l D cI cC cQ H.size d0 n0 na s0 sa h1 h2 mm ma t0 p0 pa tk N S oo zz M0 M1 M2 M3 rs de pc pg f444 v445 po dd lt pl f1s s2s tms (50 + (((((x1 / 32) / 4) >>> ((5 * k4) &&& 31)) / 128) - ((((x1 / 32) / 4) >>> ((5 * k4) &&& 31)) / 128) / 8 * 8)) ((padr_apd (padr_apd (padr_apd (padr_apd (padr_apd (padr_apd (padr_apd (padr_apd hpad1 hw307) hw344) hw349) hw354) hw359) hw407) hw431) hw443).1)) (kcwV hts wd_ml_RL_41 wd_im_yX4_append wd_sel_yX4_append wd_ini_RX4 wd_code_yX4_append rfl rfl rfl hd_X4_append ⟨Nat.le_of_ble_eq_true rfl, Nat.le_of_ble_eq_true rfl⟩) ⟨in_blind, va_recv hK (pa_l (pa_r hPs)) (ci := 4) (q0 := 0) rfl rfl, k_pre hK (pa_l (pa_r hPs)) (da_l (da_r hDs)) hN⟩ rfl rfl hl.1 rfl (lv_room (Nat.le_of_ble_eq_true rfl)) dL_acts_440 ⟨Nat.le_of_ble_eq_true rfl, Nat.le_of_ble_eq_true rfl⟩) hPs hDs hS hA (fun r447 u448 H locs hw449 hP hD hS => ?_)
                      obtain ⟨f450, v451⟩ := u448
                      have hP := k_unP hP
                      have hD := k_unD hD
                      have hP : va_P D vwCl (DW cI cC cQ d0 n0 na s0 sa h1 h2 mm ma t0 p0 pa tk N S oo zz M0 M1 M2 M3 rs de pc pg f450 v451 po dd lt pl f1s s2s tms) H := hP
                      have hD : va_D A (DW cI cC cQ d0 n0 na s0 sa h1 h2 mm ma t0 p0 pa tk N S oo zz M0 M1 M2 M3 rs de pc pg f450 v451 po dd lt pl f1s s2s tms) := hD
                      have hw449 : (r447, f450, v451) = (sh_X4_append f444 v445 (50 + (((((x1 / 32) / 4) >>> ((5 * k4) &&& 31)) / 128) - ((((x1 / 32) / 4) >>> ((5 * k4) &&& 31)) / 128) / 8 * 8))) := hw449
                      have hq := kb_to hq hw449
                      refine lv_goto (tgt := 447) hx hb dL_acts_443 (by decide) ?_
                      refine lv_istore_n (lv' := [(3, .int r447), (5, .int (((x1 / 32) / 4) >>> ((5 * k4) &&& 31))), (4, .int k4), (2, .int (x1 / 32)), (0, .ref d0), (1, .int x1)]) hx hb dL_acts_447 rfl hl (by decide) rfl (fun ls hl => ?_)
                      refine lv_goto (tgt := 535) hx hb dL_acts_448 (by decide) ?_
                      refine lv_iinc (v := (k4 + 1)) (lv' := [(4, .int (k4 + 1)), (3, .int r447), (5, .int (((x1 / 32) / 4) >>> ((5 * k4) &&& 31))), (2, .int (x1 / 32)), (0, .ref d0), (1, .int x1)]) hx hb dL_acts_535 hl (k := 2) rfl rfl (by decide) rfl (fun ls hl => ?_)
                      refine lv_goto (tgt := 248) hx hb dL_acts_538 (by decide) ?_
                      exact ih (r447) ((k4 + 1)) (f450) (v451) _ _ _ (k_mu hmu c127) ((padr_apd (padr_apd (padr_apd (padr_apd (padr_apd (padr_apd (padr_apd (padr_apd (padr_apd hpad1 hw307) hw344) hw349) hw354) hw359) hw407) hw431) hw443) hw449)) hq hP hD hS (lv_sub hl [0, 1, 3, 4, 5] rfl)
    exact L248 (((1 + ((x1 / 32) - (x1 / 32) / 4 * 4)).toInt - (0 : Int32).toInt).toNat + 1) (r123) (0) (sg) (v126) _ _ _ (Nat.lt_succ_self _) ((padr_clr (sg := sg) hw125)) hq hP hD hS (lv_sub hl [0, 1, 2, 3, 4] rfl)
  by_cases c1 : (x1 - x1 / 32 * 32) = 0
  · have hq := it_pos hq c1
    refine lv_tableIn (tgt := 100) hx hb dL_acts_9 (by rw [c1]; decide) (by rw [c1]; decide) (by rw [c1] <;> rfl) (by decide) ?_
    exact K100 _ _ _ hq hP hD hS hl
  have hq := it_neg hq c1
  by_cases c2 : (x1 - x1 / 32 * 32) = 1
  · have hq := it_pos hq c2
    refine lv_tableIn (tgt := 100) hx hb dL_acts_9 (by rw [c2]; decide) (by rw [c2]; decide) (by rw [c2] <;> rfl) (by decide) ?_
    exact K100 _ _ _ hq hP hD hS hl
  have hq := it_neg hq c2
  by_cases c3 : (x1 - x1 / 32 * 32) = 2
  · have hq := it_pos hq c3
    refine lv_tableIn (tgt := 100) hx hb dL_acts_9 (by rw [c3]; decide) (by rw [c3]; decide) (by rw [c3] <;> rfl) (by decide) ?_
    exact K100 _ _ _ hq hP hD hS hl
  have hq := it_neg hq c3
  by_cases c4 : (x1 - x1 / 32 * 32) = 3
  · have hq := it_pos hq c4
    refine lv_tableIn (tgt := 108) hx hb dL_acts_9 (by rw [c4]; decide) (by rw [c4]; decide) (by rw [c4] <;> rfl) (by decide) ?_
    exact K108 _ _ _ hq hP hD hS hl
  have hq := it_neg hq c4
  by_cases c5 : (x1 - x1 / 32 * 32) = 4
  · have hq := it_pos hq c5
    refine lv_tableIn (tgt := 108) hx hb dL_acts_9 (by rw [c5]; decide) (by rw [c5]; decide) (by rw [c5] <;> rfl) (by decide) ?_
    exact K108 _ _ _ hq hP hD hS hl
  have hq := it_neg hq c5
  by_cases c6 : (x1 - x1 / 32 * 32) = 5
  · have hq := it_pos hq c6
    refine lv_tableIn (tgt := 108) hx hb dL_acts_9 (by rw [c6]; decide) (by rw [c6]; decide) (by rw [c6] <;> rfl) (by decide) ?_
    exact K108 _ _ _ hq hP hD hS hl
  have hq := it_neg hq c6
  by_cases c7 : (x1 - x1 / 32 * 32) = 6
  · have hq := it_pos hq c7
    refine lv_tableIn (tgt := 121) hx hb dL_acts_9 (by rw [c7]; decide) (by rw [c7]; decide) (by rw [c7] <;> rfl) (by decide) ?_
    refine lv_aload_n hx hb dL_acts_121 rfl (lv_at hl 1 rfl) ?_
    refine lv_iload_n hx hb dL_acts_122 rfl (lv_at hl 0 rfl) ?_
    refine lv_iconst (v := 2) hx hb dL_acts_123 (by decide) ?_
    refine lv_irem hx hb dL_acts_124 (by decide) ?_
    have hPs := k_self hP
    have hDs := k_selfD hD
    refine k_behi (X := []) (Y := []) (va_runV (As := [.int ((x1 / 32) - (x1 / 32) / 2 * 2)]) (rest := []) ⟨hx, hb, hml, hown, hts⟩ (c_X4_takeOut l D cI cC cQ H.size d0 n0 na s0 sa h1 h2 mm ma t0 p0 pa tk N S oo zz M0 M1 M2 M3 rs de pc pg sg ln po dd lt pl f1s s2s tms ((x1 / 32) - (x1 / 32) / 2 * 2) (hoo) (hzz)) (kcwV hts wd_ml_RL_19 wd_im_yX4_takeOut wd_sel_yX4_takeOut wd_ini_RX4 wd_code_yX4_takeOut rfl rfl rfl hd_X4_takeOut ⟨Nat.le_of_ble_eq_true rfl, Nat.le_of_ble_eq_true rfl⟩) ⟨in_blind, va_recv hK (pa_l (pa_r hPs)) (ci := 4) (q0 := 0) rfl rfl, k_pre hK (pa_l (pa_r hPs)) (da_l (da_r hDs)) hN⟩ rfl rfl hl.1 rfl (lv_room (Nat.le_of_ble_eq_true rfl)) dL_acts_125 ⟨Nat.le_of_ble_eq_true rfl, Nat.le_of_ble_eq_true rfl⟩) hPs hDs hS hA (fun r40 u41 H locs hw42 hP hD hS => ?_)
    obtain ⟨t43, v44, v45, t46, t47, t48, t49⟩ := u41
    have hP := k_unP hP
    have hD := k_unD hD
    have hP : va_P D vwCl (DW cI cC cQ d0 n0 na s0 sa h1 h2 mm ma t0 p0 pa tk t43 S v44 v45 t46 t47 t48 t49 rs de pc pg sg ln po dd lt pl f1s s2s tms) H := hP
    have hD : va_D A (DW cI cC cQ d0 n0 na s0 sa h1 h2 mm ma t0 p0 pa tk t43 S v44 v45 t46 t47 t48 t49 rs de pc pg sg ln po dd lt pl f1s s2s tms) := hD
    have hw42 : (r40, t43, v44, v45, t46, t47, t48, t49) = (sh_X4_takeOut N oo zz M0 M1 M2 M3 ((x1 / 32) - (x1 / 32) / 2 * 2)) := hw42
    have hq := kb_to hq hw42
    exact hret _ _ _ _ (r40) (tk, t43, S, v44, v45, t46, t47, t48, t49, rs, de, pc, pg, sg, ln, po, dd, lt, pl, f1s, s2s, tms) dL_acts_128 rfl (hq.symm.trans hX) hP hD hS
  have hq := it_neg hq c7
  by_cases c8 : (x1 - x1 / 32 * 32) = 7
  · have hq := it_pos hq c8
    refine lv_tableIn (tgt := 129) hx hb dL_acts_9 (by rw [c8]; decide) (by rw [c8]; decide) (by rw [c8] <;> rfl) (by decide) ?_
    exact K129 _ _ _ hq hP hD hS hl
  have hq := it_neg hq c8
  by_cases c9 : (x1 - x1 / 32 * 32) = 8
  · have hq := it_pos hq c9
    refine lv_tableIn (tgt := 129) hx hb dL_acts_9 (by rw [c9]; decide) (by rw [c9]; decide) (by rw [c9] <;> rfl) (by decide) ?_
    exact K129 _ _ _ hq hP hD hS hl
  have hq := it_neg hq c9
  by_cases c10 : (x1 - x1 / 32 * 32) = 9
  · have hq := it_pos hq c10
    refine lv_tableIn (tgt := 146) hx hb dL_acts_9 (by rw [c10]; decide) (by rw [c10]; decide) (by rw [c10] <;> rfl) (by decide) ?_
    exact K146 _ _ _ hq hP hD hS hl
  have hq := it_neg hq c10
  by_cases c11 : (x1 - x1 / 32 * 32) = 10
  · have hq := it_pos hq c11
    refine lv_tableIn (tgt := 146) hx hb dL_acts_9 (by rw [c11]; decide) (by rw [c11]; decide) (by rw [c11] <;> rfl) (by decide) ?_
    exact K146 _ _ _ hq hP hD hS hl
  have hq := it_neg hq c11
  by_cases c12 : (x1 - x1 / 32 * 32) = 11
  · have hq := it_pos hq c12
    refine lv_tableIn (tgt := 225) hx hb dL_acts_9 (by rw [c12]; decide) (by rw [c12]; decide) (by rw [c12] <;> rfl) (by decide) ?_
    exact K225 _ _ _ hq hP hD hS hl
  have hq := it_neg hq c12
  by_cases c13 : (x1 - x1 / 32 * 32) = 12
  · have hq := it_pos hq c13
    refine lv_tableIn (tgt := 225) hx hb dL_acts_9 (by rw [c13]; decide) (by rw [c13]; decide) (by rw [c13] <;> rfl) (by decide) ?_
    exact K225 _ _ _ hq hP hD hS hl
  have hq := it_neg hq c13
  by_cases c14 : (x1 - x1 / 32 * 32) = 13
  · have hq := it_pos hq c14
    refine lv_tableIn (tgt := 230) hx hb dL_acts_9 (by rw [c14]; decide) (by rw [c14]; decide) (by rw [c14] <;> rfl) (by decide) ?_
    refine lv_aload_n hx hb dL_acts_230 rfl (lv_at hl 1 rfl) ?_
    have hPs := k_self hP
    have hDs := k_selfD hD
    refine k_behi (X := []) (Y := []) (va_runV (As := []) (rest := []) ⟨hx, hb, hml, hown, hts⟩ (c_X4_save l D cI cC cQ H.size d0 n0 na s0 sa h1 h2 mm ma t0 p0 pa tk N S oo zz M0 M1 M2 M3 rs de pc pg sg ln po dd lt pl f1s s2s tms ) (kcwV hts wd_ml_RL_32 wd_im_yX4_save wd_sel_yX4_save wd_ini_RX4 wd_code_yX4_save rfl rfl rfl hd_X4_save ⟨Nat.le_of_ble_eq_true rfl, Nat.le_of_ble_eq_true rfl⟩) ⟨in_blind, va_recv hK (pa_l (pa_r hPs)) (ci := 4) (q0 := 0) rfl rfl, k_pre hK (pa_l (pa_r hPs)) (da_l (da_r hDs)) hN⟩ rfl rfl hl.1 rfl (lv_room (Nat.le_of_ble_eq_true rfl)) dL_acts_231 ⟨Nat.le_of_ble_eq_true rfl, Nat.le_of_ble_eq_true rfl⟩) hPs hDs hS hA (fun r108 u109 H locs hw110 hP hD hS => ?_)
    obtain ⟨v111, t112⟩ := u109
    have hP := k_unP hP
    have hD := k_unD hD
    have hP : va_P D vwCl (DW cI cC cQ d0 n0 na s0 sa h1 h2 mm ma t0 p0 pa v111 N t112 oo zz M0 M1 M2 M3 rs de pc pg sg ln po dd lt pl f1s s2s tms) H := hP
    have hD : va_D A (DW cI cC cQ d0 n0 na s0 sa h1 h2 mm ma t0 p0 pa v111 N t112 oo zz M0 M1 M2 M3 rs de pc pg sg ln po dd lt pl f1s s2s tms) := hD
    have hw110 : (r108, v111, t112) = (sh_X4_save N S) := hw110
    have hq := kb_to hq hw110
    exact hret _ _ _ _ (r108) (v111, N, t112, oo, zz, M0, M1, M2, M3, rs, de, pc, pg, sg, ln, po, dd, lt, pl, f1s, s2s, tms) dL_acts_234 rfl (hq.symm.trans hX) hP hD hS
  have hq := it_neg hq c14
  by_cases c15 : (x1 - x1 / 32 * 32) = 14
  · have hq := it_pos hq c15
    refine lv_tableIn (tgt := 235) hx hb dL_acts_9 (by rw [c15]; decide) (by rw [c15]; decide) (by rw [c15] <;> rfl) (by decide) ?_
    refine lv_aload_n hx hb dL_acts_235 rfl (lv_at hl 1 rfl) ?_
    have hPs := k_self hP
    have hDs := k_selfD hD
    refine k_behi (X := []) (Y := []) (va_runV (As := []) (rest := []) ⟨hx, hb, hml, hown, hts⟩ (c_X4_restore l D cI cC cQ H.size d0 n0 na s0 sa h1 h2 mm ma t0 p0 pa tk N S oo zz M0 M1 M2 M3 rs de pc pg sg ln po dd lt pl f1s s2s tms (hoo) (hzz)) (kcwV hts wd_ml_RL_35 wd_im_yX4_restore wd_sel_yX4_restore wd_ini_RX4 wd_code_yX4_restore rfl rfl rfl hd_X4_restore ⟨Nat.le_of_ble_eq_true rfl, Nat.le_of_ble_eq_true rfl⟩) ⟨in_blind, va_recv hK (pa_l (pa_r hPs)) (ci := 4) (q0 := 0) rfl rfl, k_pre hK (pa_l (pa_r hPs)) (da_l (da_r hDs)) hN⟩ rfl rfl hl.1 rfl (lv_room (Nat.le_of_ble_eq_true rfl)) dL_acts_236 ⟨Nat.le_of_ble_eq_true rfl, Nat.le_of_ble_eq_true rfl⟩) hPs hDs hS hA (fun r113 u114 H locs hw115 hP hD hS => ?_)
    obtain ⟨t116, v117, v118, t119, t120, t121, t122⟩ := u114
    have hP := k_unP hP
    have hD := k_unD hD
    have hP : va_P D vwCl (DW cI cC cQ d0 n0 na s0 sa h1 h2 mm ma t0 p0 pa tk t116 S v117 v118 t119 t120 t121 t122 rs de pc pg sg ln po dd lt pl f1s s2s tms) H := hP
    have hD : va_D A (DW cI cC cQ d0 n0 na s0 sa h1 h2 mm ma t0 p0 pa tk t116 S v117 v118 t119 t120 t121 t122 rs de pc pg sg ln po dd lt pl f1s s2s tms) := hD
    have hw115 : (r113, t116, v117, v118, t119, t120, t121, t122) = (sh_X4_restore tk N S oo zz M0 M1 M2 M3) := hw115
    have hq := kb_to hq hw115
    exact hret _ _ _ _ (r113) (tk, t116, S, v117, v118, t119, t120, t121, t122, rs, de, pc, pg, sg, ln, po, dd, lt, pl, f1s, s2s, tms) dL_acts_239 rfl (hq.symm.trans hX) hP hD hS
  have hq := it_neg hq c15
  by_cases c16 : (x1 - x1 / 32 * 32) = 15
  · have hq := it_pos hq c16
    refine lv_tableIn (tgt := 240) hx hb dL_acts_9 (by rw [c16]; decide) (by rw [c16]; decide) (by rw [c16] <;> rfl) (by decide) ?_
    exact K240 _ _ _ hq hP hD hS hl
  have hq := it_neg hq c16
  by_cases c17 : (x1 - x1 / 32 * 32) = 16
  · have hq := it_pos hq c17
    refine lv_tableIn (tgt := 240) hx hb dL_acts_9 (by rw [c17]; decide) (by rw [c17]; decide) (by rw [c17] <;> rfl) (by decide) ?_
    exact K240 _ _ _ hq hP hD hS hl
  have hq := it_neg hq c17
  by_cases c18 : (x1 - x1 / 32 * 32) = 17
  · have hq := it_pos hq c18
    refine lv_tableIn (tgt := 240) hx hb dL_acts_9 (by rw [c18]; decide) (by rw [c18]; decide) (by rw [c18] <;> rfl) (by decide) ?_
    exact K240 _ _ _ hq hP hD hS hl
  have hq := it_neg hq c18
  by_cases c19 : (x1 - x1 / 32 * 32) = 18
  · have hq := it_pos hq c19
    refine lv_tableIn (tgt := 240) hx hb dL_acts_9 (by rw [c19]; decide) (by rw [c19]; decide) (by rw [c19] <;> rfl) (by decide) ?_
    exact K240 _ _ _ hq hP hD hS hl
  have hq := it_neg hq c19
  refine lv_tableOut (tgt := 565) hx hb dL_acts_9 (k_out19 c1 c2 c3 c4 c5 c6 c7 c8 c9 c10 c11 c12 c13 c14 c15 c16 c17 c18 c19) (by decide) ?_
  refine lv_aload_n hx hb dL_acts_565 rfl (lv_at hl 1 rfl) ?_
  refine lv_iload_n hx hb dL_acts_566 rfl (lv_at hl 0 rfl) ?_
  refine lv_iconst (v := 2) hx hb dL_acts_567 (by decide) ?_
  refine lv_irem hx hb dL_acts_568 (by decide) ?_
  refine lv_iconst (v := 1) hx hb dL_acts_569 (by decide) ?_
  refine lv_iload_n hx hb dL_acts_570 rfl (lv_at hl 0 rfl) ?_
  refine lv_iconst (v := 2) hx hb dL_acts_571 (by decide) ?_
  refine lv_idiv hx hb dL_acts_572 (by decide) ?_
  refine lv_iload_n hx hb dL_acts_573 rfl (lv_at hl 0 rfl) ?_
  refine lv_bipush (v := 7) hx hb dL_acts_574 (by decide) ?_
  refine lv_irem hx hb dL_acts_576 (by decide) ?_
  refine lv_if_ne (tgt := 586) hx hb dL_acts_577 (by decide) (fun c452 => ?_) (fun c452 => ?_)
  · have hq := it_neg hq c452
    refine lv_sipush (v := 250) hx hb dL_acts_586 (by decide) ?_
    refine lv_irem hx hb dL_acts_589 (by decide) ?_
    refine lv_iadd hx hb dL_acts_590 ?_
    have hPs := k_self hP
    have hDs := k_selfD hD
    refine k_behi (X := []) (Y := []) (va_runV (As := [.int ((x1 / 32) - (x1 / 32) / 2 * 2), .int (1 + (((x1 / 32) / 2) - ((x1 / 32) / 2) / 250 * 250))]) (rest := []) ⟨hx, hb, hml, hown, hts⟩ (c_X4_print l D cI cC cQ H.size d0 n0 na s0 sa h1 h2 mm ma t0 p0 pa tk N S oo zz M0 M1 M2 M3 rs de pc pg sg ln po dd lt pl f1s s2s tms ((x1 / 32) - (x1 / 32) / 2 * 2) (1 + (((x1 / 32) / 2) - ((x1 / 32) / 2) / 250 * 250)) (hoo) (hzz)) (kcwV hts wd_ml_RL_50 wd_im_yX4_print wd_sel_yX4_print wd_ini_RX4 wd_code_yX4_print rfl rfl rfl hd_X4_print ⟨Nat.le_of_ble_eq_true rfl, Nat.le_of_ble_eq_true rfl⟩) ⟨in_blind, va_recv hK (pa_l (pa_r hPs)) (ci := 4) (q0 := 0) rfl rfl, k_pre hK (pa_l (pa_r hPs)) (da_l (da_r hDs)) hN⟩ rfl rfl hl.1 rfl (lv_room (Nat.le_of_ble_eq_true rfl)) dL_acts_591 ⟨Nat.le_of_ble_eq_true rfl, Nat.le_of_ble_eq_true rfl⟩) hPs hDs hS hA (fun r453 u454 H locs hw455 hP hD hS => ?_)
    obtain ⟨t456, v457, v458, t459, t460, t461, t462⟩ := u454
    have hP := k_unP hP
    have hD := k_unD hD
    have hP : va_P D vwCl (DW cI cC cQ d0 n0 na s0 sa h1 h2 mm ma t0 p0 pa tk t456 S v457 v458 t459 t460 t461 t462 rs de pc pg sg ln po dd lt pl f1s s2s tms) H := hP
    have hD : va_D A (DW cI cC cQ d0 n0 na s0 sa h1 h2 mm ma t0 p0 pa tk t456 S v457 v458 t459 t460 t461 t462 rs de pc pg sg ln po dd lt pl f1s s2s tms) := hD
    have hw455 : (r453, t456, v457, v458, t459, t460, t461, t462) = (sh_X4_print N oo zz M0 M1 M2 M3 ((x1 / 32) - (x1 / 32) / 2 * 2) (1 + (((x1 / 32) / 2) - ((x1 / 32) / 2) / 250 * 250))) := hw455
    have hq := kb_to hq hw455
    exact hret _ _ _ _ (r453) (tk, t456, S, v457, v458, t459, t460, t461, t462, rs, de, pc, pg, sg, ln, po, dd, lt, pl, f1s, s2s, tms) dL_acts_594 rfl (hq.symm.trans hX) hP hD hS
  · have hq := it_pos hq c452
    refine lv_sipush (v := 999) hx hb dL_acts_580 (by decide) ?_
    refine lv_goto (tgt := 589) hx hb dL_acts_583 (by decide) ?_
    refine lv_irem hx hb dL_acts_589 (by decide) ?_
    refine lv_iadd hx hb dL_acts_590 ?_
    have hPs := k_self hP
    have hDs := k_selfD hD
    refine k_behi (X := []) (Y := []) (va_runV (As := [.int ((x1 / 32) - (x1 / 32) / 2 * 2), .int (1 + (((x1 / 32) / 2) - ((x1 / 32) / 2) / 999 * 999))]) (rest := []) ⟨hx, hb, hml, hown, hts⟩ (c_X4_print l D cI cC cQ H.size d0 n0 na s0 sa h1 h2 mm ma t0 p0 pa tk N S oo zz M0 M1 M2 M3 rs de pc pg sg ln po dd lt pl f1s s2s tms ((x1 / 32) - (x1 / 32) / 2 * 2) (1 + (((x1 / 32) / 2) - ((x1 / 32) / 2) / 999 * 999)) (hoo) (hzz)) (kcwV hts wd_ml_RL_50 wd_im_yX4_print wd_sel_yX4_print wd_ini_RX4 wd_code_yX4_print rfl rfl rfl hd_X4_print ⟨Nat.le_of_ble_eq_true rfl, Nat.le_of_ble_eq_true rfl⟩) ⟨in_blind, va_recv hK (pa_l (pa_r hPs)) (ci := 4) (q0 := 0) rfl rfl, k_pre hK (pa_l (pa_r hPs)) (da_l (da_r hDs)) hN⟩ rfl rfl hl.1 rfl (lv_room (Nat.le_of_ble_eq_true rfl)) dL_acts_591 ⟨Nat.le_of_ble_eq_true rfl, Nat.le_of_ble_eq_true rfl⟩) hPs hDs hS hA (fun r463 u464 H locs hw465 hP hD hS => ?_)
    obtain ⟨t466, v467, v468, t469, t470, t471, t472⟩ := u464
    have hP := k_unP hP
    have hD := k_unD hD
    have hP : va_P D vwCl (DW cI cC cQ d0 n0 na s0 sa h1 h2 mm ma t0 p0 pa tk t466 S v467 v468 t469 t470 t471 t472 rs de pc pg sg ln po dd lt pl f1s s2s tms) H := hP
    have hD : va_D A (DW cI cC cQ d0 n0 na s0 sa h1 h2 mm ma t0 p0 pa tk t466 S v467 v468 t469 t470 t471 t472 rs de pc pg sg ln po dd lt pl f1s s2s tms) := hD
    have hw465 : (r463, t466, v467, v468, t469, t470, t471, t472) = (sh_X4_print N oo zz M0 M1 M2 M3 ((x1 / 32) - (x1 / 32) / 2 * 2) (1 + (((x1 / 32) / 2) - ((x1 / 32) / 2) / 999 * 999))) := hw465
    have hq := kb_to hq hw465
    exact hret _ _ _ _ (r463) (tk, t466, S, v467, v468, t469, t470, t471, t472, rs, de, pc, pg, sg, ln, po, dd, lt, pl, f1s, s2s, tms) dL_acts_594 rfl (hq.symm.trans hX) hP hD hS
